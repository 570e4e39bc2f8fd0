/-! what the printed walks use -/
theorem xin_iff {x : Int32} {n : Nat} (h0 : 0 ≤ x.toInt) (h1 : x.toInt < n) : vp_in x n := vp_in_iff.mpr ⟨h0, h1⟩
theorem x0_le {x : Int32} (h : ¬ x < 0) : 0 ≤ x.toInt := by
  have := Int32.not_lt.mp h
  simpa using Int32.le_iff_toInt_le.mp this
theorem xin_g {x c : Int32} {n : Nat} (h1 : ¬ x < 0) (h2 : x < c) (h3 : decide (c.toInt ≤ (n : Int)) = true) : vp_in x n := by
  have h3 := of_decide_eq_true h3
  have h2 := Int32.lt_iff_toInt_lt.mp h2
  exact xin_iff (x0_le h1) (by omega)
theorem xin_ge {x c : Int32} {n : Nat} (h1 : ¬ x < 0) (h2 : ¬ c < x) (h3 : decide (c.toInt < (n : Int)) = true) : vp_in x n := by
  have h3 := of_decide_eq_true h3
  have h2 := Int32.le_iff_toInt_le.mp (Int32.not_lt.mp h2)
  exact xin_iff (x0_le h1) (by omega)
theorem xin_n {x : Int32} {n : Nat} (h1 : ¬ x < 0) (h2 : x < Int32.ofNat n) (h3 : n < 2 ^ 31) : vp_in x n := by
  have h2 := Int32.lt_iff_toInt_lt.mp h2
  have h4 : (Int32.ofNat n).toInt = (n : Int) := nI_toInt h3
  rw [h4] at h2
  exact xin_iff (x0_le h1) h2
theorem xin_nat {x : Int32} {a n : Nat} (h : x = nI a) (h1 : a < n) (h2 : n < 2 ^ 31) : vp_in x n := by
  rw [h]
  exact vp_in_nI h1 h2
theorem xin_natg {x c : Int32} {a n : Nat} (h : x = nI a) (h0 : a < 2 ^ 31) (h1 : x < c) (h2 : decide (c.toInt ≤ (n : Int)) = true) (h3 : n < 2 ^ 31) : vp_in x n := by
  have h2 := of_decide_eq_true h2
  have h1 := Int32.lt_iff_toInt_lt.mp h1
  rw [h] at h1 ⊢
  rw [nI_toInt h0] at h1
  exact vp_in_nI (by omega) h3
theorem xn_add {x y : Int32} {a b : Nat} (h1 : x = nI a) (h2 : y = nI b) : x + y = nI (a + b) := by rw [h1, h2, nI_add]
theorem xn_mul {x y : Int32} {a b : Nat} (h1 : x = nI a) (h2 : y = nI b) : x * y = nI (a * b) := by rw [h1, h2, pk_mul]
theorem xlt_yes (N : Nat) {i k : Nat} (h : i + (k + 1) = N) (hN : N < 2 ^ 31) : nI i < nI N := nI_lt (by omega) hN
theorem xlt_no (N : Nat) {i : Nat} (h : i + 0 = N) (hN : N < 2 ^ 31) : ¬ nI i < nI N := nI_nlt (by omega) (by omega)
theorem xgt_yes (N : Nat) {i : Nat} (h : i + 0 = N) (hN : 0 < N ∧ N < 2 ^ 31) : ¬ ¬ nI (N - 1) < nI i := fun q => q (nI_lt (by omega) (by omega))
theorem xgt_no (N : Nat) {i k : Nat} (h : i + (k + 1) = N) (hN : 0 < N ∧ N < 2 ^ 31) : ¬ nI (N - 1) < nI i := nI_nlt (by omega) (by omega)
theorem xcnt (i : Nat) : some (Value.int (nI i + 1)) = some (Value.int (nI (i + 1))) := by rw [nI_1]
theorem xne_pos {x : Int32} (h : 0 < x) : ¬ x = 0 := fun q => by rw [q] at h; exact absurd h (by decide)
def xinb (x : Int32) (n : Nat) : Bool := decide (0 ≤ x.toInt) && decide (x.toInt < (n : Int))
theorem xinb_ok {x : Int32} {n : Nat} (h : xinb x n = true) : vp_in x n := by
  simp only [xinb, Bool.and_eq_true, decide_eq_true_eq] at h
  exact xin_iff h.1 h.2
def xfuel : Nat := 5000
def xlet {α β : Type} (o : α) (f : α → β) : β := f o
theorem xR_let {X : xCtx} {ρ α : Type} {enc : ρ → xRes} {o : α} {f : α → ρ} {pc : Nat} {L : xLo} {S : List Value} {C : xC} (h : ∀ q, q = o → xR X (enc (f q)) pc L S C) : xR X (enc (xlet o f)) pc L S C := h o rfl
theorem xR_bind {X : xCtx} {ρ α : Type} {enc : Option ρ → xRes} {o : Option α} {f : α → Option ρ} {pc : Nat} {L : xLo} {S : List Value} {C : xC} (hn : enc none = none) (h : ∀ q, o = some q → xR X (enc (f q)) pc L S C) : xR X (enc (o.bind f)) pc L S C := by
  cases ho : o with
  | none =>
    show xR X (enc none) pc L S C
    rw [hn]
    exact xR_none
  | some q => exact h q ho
section XC2
variable {l : Launch} {cc : ByteArray} {nL : Nat} {own : String} {rt : Option FieldType} {d : Nat} {X : xCtx} {tb : xTb} {P : xPg} {pc t : Nat} {L : xLo} {S : List Value} {C : xC} {r : xRes} {idx : Nat} {y : MethodName} {c' : ByteArray} {nL' : Nat} {rt' : Option FieldType} {n d' : Nat} {Cc Cc' : xC} {v : Option Value}
theorem xR_callS2 (K : xY l cc nL own rt d X) (hP : xPq own cc tb P) (ha : xat P pc = some (.invokestatic idx, .null)) (lk : xLk own idx y) (cy : xCy y c' nL' rt') (hst : Cond.static y ∈ xtb) (hn : xar y n) {rest : List Value} {as : List Value} (hM : xMet l d' y c' nL' rt' as Cc (some (v, Cc'))) (hd : d' + 1 ≤ d) (hnL : nL' ≤ 45) {S2 : List Value} {C2 : xC} (φ : Nat → Nat) (is : List Nat) (hS : S = (as.map (xcv φ)).reverse ++ rest) (hlen : as.length = n) (hw : (rest.map fun v => v.category).sum ≤ 8) (hsel : is.map (fun i => C[i]?) = Cc.map (fun q => some (xrn φ q))) (hnd : va_nd is = true) (hkeys : Cc'.map (·.1) = Cc.map (·.1)) (e1 : (v.map (xcv φ)).toList ++ rest = S2) (e2 : xsetL C is (Cc'.map (xrn φ)) = C2) (k : xR X r (pc + 3) L S2 C2) : xR X r pc L S C := by
  subst e1; subst e2
  exact xR_callS K hP ha lk cy hst hn hM hd hnL φ is hS hlen hw hsel hnd hkeys k
theorem xR_callV2 (K : xY l cc nL own rt d X) (hP : xPq own cc tb P) (ha : xat P pc = some (.invokevirtual idx, .null)) (lk : xLk own idx y) (cy : xCy y c' nL' rt') (hst : Cond.instanceMethod y ∈ xtb ∧ Cond.selects y.cls y y ∈ xtb) (hn : xar y n) {rest : List Value} {k0 : Nat} {as : List Value} (hM : xMet l d' y c' nL' rt' (.ref k0 :: as) Cc (some (v, Cc'))) (hd : d' + 1 ≤ d) (hnL : nL' ≤ 45) {i0 ci : Nat} {fs : List Value} (hrec : xpos 0 Cc k0 = some (i0, .inr (ci, fs))) (hcl : (xcl[ci]?).map (·.1) = some y.cls) {S2 : List Value} {C2 : xC} (φ : Nat → Nat) (is : List Nat) (hS : S = ((.ref k0 :: as).map (xcv φ)).reverse ++ rest) (hlen : as.length = n) (hw : (rest.map fun v => v.category).sum ≤ 8) (hsel : is.map (fun i => C[i]?) = Cc.map (fun q => some (xrn φ q))) (hnd : va_nd is = true) (hkeys : Cc'.map (·.1) = Cc.map (·.1)) (e1 : (v.map (xcv φ)).toList ++ rest = S2) (e2 : xsetL C is (Cc'.map (xrn φ)) = C2) (k : xR X r (pc + 3) L S2 C2) : xR X r pc L S C := by
  subst e1; subst e2
  exact xR_callV K hP ha lk cy hst hn hM hd hnL hrec hcl φ is hS hlen hw hsel hnd hkeys k
end XC2
theorem xR_less2 {X : xCtx} {r : Option (Option Value × xC)} {pc : Nat} {L L' : xLo} {S : List Value} {C : xC} (k : xR X r pc L' S C) (h : xlsub L' L) : xR X r pc L S C := xR_less h k
