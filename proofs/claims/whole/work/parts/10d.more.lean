/-! results in pieces, rows of references -/
def xu {α β γ : Type} (f : α → β → γ) : α × β → γ := fun p => f p.1 p.2
theorem xR_u {X : xCtx} {ρ α β : Type} {enc : ρ → xRes} {f : α → β → ρ} {a : α} {b : β} {pc : Nat} {L : xLo} {S : List Value} {C : xC} (h : xR X (enc (f a b)) pc L S C) : xR X (enc (xu f (a, b))) pc L S C := h
theorem xrem_toInt (x c : Int32) (hc : decide (0 < c.toInt) = true) : (x - x / c * c).toInt = x.toInt.tmod c.toInt := by
  have hc := of_decide_eq_true hc
  have hne : c ≠ -1 := by
    intro q
    rw [q] at hc
    exact absurd hc (by decide)
  have h1 : (x / c).toInt = x.toInt.tdiv c.toInt := Int32.toInt_div_of_ne_right x c hne
  have h2 : c.toInt < 2 ^ 31 := c.toInt_lt
  have h3 := Int.tmod_lt_of_pos x.toInt hc
  have h4 := Int.lt_tmod_of_pos x.toInt hc
  rw [Int32.toInt_sub, Int32.toInt_mul, h1]
  rw [Int.sub_bmod_bmod, Int.mul_comm, ← Int.tmod_def]
  exact Int.bmod_eq_of_le (by omega) (by omega)
theorem xin_rem {x c : Int32} {n : Nat} (h : ¬ (x - x / c * c) < 0) (hc : decide (0 < c.toInt ∧ c.toInt ≤ (n : Int)) = true) : vp_in (x - x / c * c) n := by
  have hc := of_decide_eq_true hc
  have h1 := x0_le h
  have h2 := xrem_toInt x c (decide_eq_true hc.1)
  have h3 := Int.tmod_lt_of_pos x.toInt hc.1
  exact xin_iff h1 (by omega)
theorem xpool (N : Nat) {g : Nat → Nat} {a : Nat → Option Nat} {i b : Nat} (hb : Nat.ble N b = false) (hg : g b = b) (h : a i = some b) : ∃ y : Nat → Option Nat, (fun j => (y j).map (fun k => cond (Nat.ble N k) (k - N + 0) (g k))) = a ∧ y i = some b := by
  refine ⟨fun j => if j = i then some b else (a j).map (· + N), funext fun j => ?_, if_pos rfl⟩
  show (if j = i then some b else (a j).map (· + N)).map _ = a j
  by_cases hj : j = i
  · rw [if_pos hj, hj, h]
    show some (cond (Nat.ble N b) _ (g b)) = some b
    rw [hb]
    exact congrArg some hg
  · rw [if_neg hj]
    cases a j with
    | none => rfl
    | some x =>
      show some (cond (Nat.ble N (x + N)) (x + N - N + 0) _) = some x
      rw [show Nat.ble N (x + N) = true from Nat.ble_eq_true_of_le (by omega)]
      exact congrArg some (by show x + N - N + 0 = x; omega)
section XAL
variable {l : Launch} {cc : ByteArray} {nL : Nat} {own : String} {rt : Option FieldType} {d : Nat} {X : xCtx} {tb : xTb} {P : xPg} {pc : Nat} {L : xLo} {S : List Value} {C : xC} {r : xRes}
theorem xR_aald (K : xY l cc nL own rt d X) (hP : xPq own cc tb P) (ha : xat P pc = some (.aaload, .null)) (q0 : Nat) {a0 kd n b : Nat} {f : Nat → Option Nat} {i : Int32} (hk : kd = 3 ∨ kd = 4) (h0 : C[q0]? = some (a0, .inl (kd, n, .inr (.inr (.inr (.inr f)))))) (hin : vp_in i n) (hf : f i.toNatClampNeg = some b) (k : xR X r (pc + 1) L (.ref b :: S) C) : xR X r pc L (.int i :: .ref a0 :: S) C := by
  have hP := K.P hP
  obtain ⟨K, hq9, -⟩ := K
  obtain ⟨⟨p, l, e, s⟩, ⟨m, args, below⟩, ⟨meth, c⟩, ⟨dd, tc, ad, A⟩, cc, nL, own, rt, d⟩ := X
  obtain ⟨hx, hb, hml, hown, hts, hr, hlk, hK⟩ := K
  obtain ⟨hT, hPk⟩ := hP
  obtain ⟨hdg, hv⟩ := hPk _ (xat_ok ha)
  cases hq9
  intro v9 C9 hr9 H locs ls hl hP0 hD hS
  have key : ∃ (t0 : Nat) (Cn : String), (xtys tc)[t0]? = some (tc kd, .object Cn) := by
    rcases hk with rfl | rfl
    · exact ⟨3, _, rfl⟩
    · exact ⟨4, _, rfl⟩
  obtain ⟨t0, Cn, ht⟩ := key
  have hdg : decode cc pc = .ok (.aaload, 1) := hdg
  have kk := k v9 C9 hr9 H locs ls hl hP0 hD hS
  have e : va_rf ((fun j => (f j).map ad) i.toNatClampNeg) = xcv ad (.ref b) := by
    show va_rf ((f i.toNatClampNeg).map ad) = _
    rw [hf]
    rfl
  refine va_aldq hx hb hK.1 hP0 q0 t0 (xws_get h0) ht hin hdg ?_
  rw [e]
  exact kk
end XAL
