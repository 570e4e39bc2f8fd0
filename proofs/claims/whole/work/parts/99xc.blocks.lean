/-! A CALL OVER A BLOCK OF THE WORLD -/
theorem lgetB {α : Type} (P D T : List α) {i : Nat} (h : i < D.length) : (P ++ (D ++ T))[P.length + i]? = D[i]? := by
  rw [List.getElem?_append_right (by omega), Nat.add_sub_cancel_left, List.getElem?_append_left h]
theorem lsetB {α : Type} (P D T : List α) {i : Nat} (h : i < D.length) (x : α) : (P ++ (D ++ T)).set (P.length + i) x = P ++ (D.set i x ++ T) := by
  rw [List.set_append, if_neg (by omega), Nat.add_sub_cancel_left, List.set_append, if_pos h]
theorem xsetL_mid {P T : xC} : ∀ {is : List Nat} {D N : xC}, (∀ i ∈ is, i < D.length) → xsetL (P ++ (D ++ T)) (is.map (fun i => P.length + i)) N = P ++ (xsetL D is N ++ T)
  | [], D, N, h => by cases N <;> rfl
  | i :: is, D, [], h => rfl
  | i :: is, D, d :: N, h => by
    have hi : i < D.length := h i List.mem_cons_self
    show xsetL ((P ++ (D ++ T)).set (P.length + i) d) (is.map (fun i => P.length + i)) N = P ++ (xsetL (D.set i d) is N ++ T)
    rw [lsetB P D T hi]
    exact xsetL_mid (fun j hj => by rw [List.length_set]; exact h j (List.mem_cons_of_mem _ hj))
theorem lmapB (P D T : xC) {is : List Nat} (h : ∀ i ∈ is, i < D.length) : (is.map (fun i => P.length + i)).map (fun i => (P ++ (D ++ T))[i]?) = is.map (fun i => D[i]?) := by
  rw [List.map_map]
  exact List.map_congr_left (fun i hi => lgetB P D T (h i hi))
theorem blt_all {is : List Nat} {n : Nat} (h : is.all (fun i => Nat.blt i n) = true) : ∀ i ∈ is, i < n := fun i hi => Nat.le_of_ble_eq_true (List.all_eq_true.mp h i hi)
section OBLK
variable {l : Launch} {cc : ByteArray} {nL : Nat} {own : String} {rt : Option FieldType} {R : Room} {X : nCtx} {tb : xTb} {Pg : xPg} {k z pc : Nat} {L : xLo} {S : List Value}
theorem o_callB (K : oY l cc nL own rt R X) (hP : xPq own cc tb Pg) {idx : Nat} (ha : xat Pg pc = some (.invokevirtual idx, .null)) {y : MethodName} (lk : xLk own idx y) {c' : ByteArray} {nL' : Nat} {rt' : Option FieldType} (cy : xCy y c' nL' rt') (hst : Cond.instanceMethod y ∈ xtb ∧ Cond.selects y.cls y y ∈ xtb) {n : Nat} (hn : xar y n) {k0 : Nat} {rest as : List Value} {d' : Nat} {Cc Cc' : xC} {v : Option Value} (hM : xMet l d' y c' nL' rt' (.ref k0 :: as) Cc (some (v, Cc'))) (hfr : d' + 1 ≤ R.frames) (hlo : 8 + (nL' + 11) + 64 * d' ≤ R.locals) (hck : k ≤ R.cells) (hzs : z ≤ R.slots) {i0 ci : Nat} {fs : List Value} (hrec : xpos 0 Cc k0 = some (i0, .inr (ci, fs))) (hcl : (xcl[ci]?).map (·.1) = some y.cls) (φ : Nat → Nat) (is : List Nat) (hS : S = ((.ref k0 :: as).map (xcv φ)).reverse ++ rest) (hlen : as.length = n) (hw : (rest.map fun v => v.category).sum ≤ 8) {S2 : List Value} (P D T D2 : xC) {nP nD : Nat} (eP : P.length = nP) (eD : D.length = nD) (his : is.all (fun i => Nat.blt i nD) = true) (hsel : is.map (fun i => D[i]?) = Cc.map (fun q => some (xrn φ q))) (hnd : va_nd is = true) (hnd2 : va_nd (is.map (fun i => nP + i)) = true) (hkeys : Cc'.map (·.1) = Cc.map (·.1)) (e1 : (v.map (xcv φ)).toList ++ rest = S2) (e2 : xmg 0 D is (Cc'.map (xrn φ)) = D2) (kk : nR X k z (pc + 3) L S2 (P ++ (D2 ++ T))) : nR X k z pc L S (P ++ (D ++ T)) := by
  subst eP
  have hb : ∀ i ∈ is, i < D.length := by rw [eD]; exact blt_all his
  refine o_callV K hP ha lk cy hst hn (rest := rest) (k0 := k0) (as := as) (v := v) (Cc' := Cc') hM hfr hlo hck hzs hrec hcl φ (is.map (fun i => P.length + i)) hS hlen hw ?_ hnd2 hkeys (S2 := S2) (C2 := P ++ (D2 ++ T)) e1 ?_ kk
  · rw [lmapB P D T hb]
    exact hsel
  · rw [xsetL_mid hb, xsetL_mg hnd, e2]
end OBLK
theorem wC_len (fy fd : Nat → Option Nat) (I : Nat → Int32) (J : Nat → Int64) (B : Nat → Bool) (A : Nat → Nat → Int32) (M : Nat → Nat → Int64) : (wC fy fd I J B A M).length = 79 := rfl
theorem wR_len (I : Nat → Int32) (J : Nat → Int64) (B : Nat → Bool) (A : Nat → Nat → Int32) (M : Nat → Nat → Int64) : (wR I J B A M).length = 51 := rfl
section OBLC
variable {l : Launch} {cc : ByteArray} {nL : Nat} {own : String} {rt : Option FieldType} {R : Room} {X : nCtx} {tb : xTb} {Pg : xPg} {k z pc : Nat} {L : xLo} {S : List Value}
theorem o_callC (K : oY l cc nL own rt R X) (hP : xPq own cc tb Pg) {idx : Nat} (ha : xat Pg pc = some (.invokevirtual idx, .null)) {y : MethodName} (lk : xLk own idx y) {c' : ByteArray} {nL' : Nat} {rt' : Option FieldType} (cy : xCy y c' nL' rt') (hst : Cond.instanceMethod y ∈ xtb ∧ Cond.selects y.cls y y ∈ xtb) {n : Nat} (hn : xar y n) {k0 : Nat} {rest as : List Value} {d' : Nat} {Cc Cc' : xC} {v : Option Value} (hM : xMet l d' y c' nL' rt' (.ref k0 :: as) Cc (some (v, Cc'))) (hfr : d' + 1 ≤ R.frames) (hlo : 8 + (nL' + 11) + 64 * d' ≤ R.locals) (hck : k ≤ R.cells) (hzs : z ≤ R.slots) {i0 ci : Nat} {fs : List Value} (hrec : xpos 0 Cc k0 = some (i0, .inr (ci, fs))) (hcl : (xcl[ci]?).map (·.1) = some y.cls) (φ : Nat → Nat) (is : List Nat) (hS : S = ((.ref k0 :: as).map (xcv φ)).reverse ++ rest) (hlen : as.length = n) (hw : (rest.map fun v => v.category).sum ≤ 8) {S2 : List Value} (D T D2 : xC) {nD : Nat} (eD : D.length = nD) (his : is.all (fun i => Nat.blt i nD) = true) (hsel : is.map (fun i => D[i]?) = Cc.map (fun q => some (xrn φ q))) (hnd : va_nd is = true) (hkeys : Cc'.map (·.1) = Cc.map (·.1)) (e1 : (v.map (xcv φ)).toList ++ rest = S2) (e2 : xmg 0 D is (Cc'.map (xrn φ)) = D2) (kk : nR X k z (pc + 3) L S2 (D2 ++ T)) : nR X k z pc L S (D ++ T) := by
  have e0 : is.map (fun i => 0 + i) = is := by
    conv => rhs; rw [← List.map_id is]
    exact List.map_congr_left (fun i _ => Nat.zero_add i)
  exact o_callB K hP ha lk cy hst hn (rest := rest) (k0 := k0) (as := as) (v := v) (Cc' := Cc') hM hfr hlo hck hzs hrec hcl φ is hS hlen hw [] D T D2 rfl eD his hsel hnd (by show va_nd (is.map (fun i => 0 + i)) = true; rw [e0]; exact hnd) hkeys (S2 := S2) e1 e2 kk
end OBLC
