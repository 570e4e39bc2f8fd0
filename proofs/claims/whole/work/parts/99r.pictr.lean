/-- is the thing told well, as the reference asks -/
def iOr (tx : Nat → Nat) (U t : Nat) : Prop := tx (iP tx t) ≤ U ∧ tx (iP tx t + 1) < 40 ∧ tx (iP tx t + 2) < 40 ∧ tx (iP tx t + 3) < 40 ∧ tx (iP tx t + 4) ≤ 99 ∧ tx (iP tx t + 5) ≤ 1
def iOkR (tx : Nat → Nat) (n U t : Nat) : Prop := tx (iP tx t) = 0 ∨ (iP tx t + 10 < n ∧ iOr tx U t)
/-- layer 1 when i things are read -/
def rI (tx : Nat → Nat) (i : Nat) (sz tr ca pl ag mk lk : Nat → Int32) : Prop :=
  (∀ t, t < i → sz (40 * 1 + t) = nI (iV tx 0 t)) ∧ (∀ t, t < i → 0 < iV tx 0 t → tr (40 * 1 + t) = nI (iV tx 1 t) ∧ ca (40 * 1 + t) = nI (iV tx 2 t) ∧ pl (40 * 1 + t) = nI (iV tx 3 t) ∧ ag (40 * 1 + t) = nI (iV tx 4 t) ∧ mk (40 * 1 + t) = nI (iV tx 5 t)) ∧ ∀ j, j < 4 * i → lk (160 * 1 + j) = bno (iL tx j)
/-- all but layer 1 stays -/
def r1F (sz tr ca pl ag mk lk sz' tr' ca' pl' ag' mk' lk' : Nat → Int32) : Prop := lF 1 sz sz' ∧ lF 1 tr tr' ∧ lF 1 ca ca' ∧ lF 1 pl pl' ∧ lF 1 ag ag' ∧ lF 1 mk mk' ∧ lG 1 lk lk'
abbrev OT : Type := Option (Int32 × (Nat → Int32) × (Nat → Int32) × (Nat → Int32) × (Nat → Int32) × (Nat → Int32) × (Nat → Int32) × (Nat → Int32))
section IR
variable {tx : Nat → Nat} {n U b : Nat} {tp ut : Nat → Int32}
/-- the links of a thing, then its tests -/
theorem ir_109 (ht : ∀ i, i < n → tp i = nI (tx i)) (hb : ∀ i, i < n → tx i < 256) (hn : n ≤ 1600) (hbk : b < 2) (hU : ut b = nI U) (hU2 : U ≤ 99) {i : Nat} (hi : i < 40) (h : ¬ tx (iP tx i) = 0) (h10 : iP tx i + 10 < n) (sz tr ca pl ag mk : Nat → Int32) (e1 : tr (40 + i) = nI (tx (iP tx i + 1))) (e2 : ca (40 + i) = nI (tx (iP tx i + 2))) (e3 : pl (40 + i) = nI (tx (iP tx i + 3))) (e4 : ag (40 + i) = nI (tx (iP tx i + 4))) (e5 : mk (40 + i) = nI (tx (iP tx i + 5))) : ∀ k r (lk : Nat → Int32), r + k = 4 → (∀ j, j < 4 * i + r → lk (160 * 1 + j) = bno (iL tx j)) → ∃ lk', ((iOr tx U i ∧ mX12_thingOn_109 (nI i) (nI (iP tx i)) (nI b) tp ut k r sz tr ca pl ag mk lk = some (nI (iP tx i + 10), sz, tr, ca, pl, ag, mk, lk')) ∨ (¬ iOr tx U i ∧ mX12_thingOn_109 (nI i) (nI (iP tx i)) (nI b) tp ut k r sz tr ca pl ag mk lk = some (-1, sz, tr, ca, pl, ag, mk, lk'))) ∧ (∀ j, j < 4 * i + 4 → lk' (160 * 1 + j) = bno (iL tx j)) ∧ lG 1 lk lk' := by
  intro k
  induction k with
  | zero =>
    intro r lk hr L
    have : r = 4 := by omega
    subst this
    refine ⟨lk, ?_, L, fun _ _ => rfl⟩
    have b0 := hb (iP tx i) (by omega)
    have b1 := hb (iP tx i + 1) (by omega)
    have b2 := hb (iP tx i + 2) (by omega)
    have b3 := hb (iP tx i + 3) (by omega)
    have b4 := hb (iP tx i + 4) (by omega)
    have b5 := hb (iP tx i + 5) (by omega)
    have e40 : (40 : Int32) + nI i = nI (40 + i) := by rw [show (40 : Int32) = nI 40 from rfl, nI_add]
    rw [mX12_thingOn_109, if_pos (zb _ _ hbk (by decide)), zc b (by omega), hU, zc _ (by omega), ht _ (by omega), e40, zc _ (by omega), e1, e2, e3, e4, e5, show (nI (iP tx i) + 6) + 4 = nI (iP tx i + 10) by rw [show (6 : Int32) = nI 6 from rfl, nI_add, show (4 : Int32) = nI 4 from rfl, nI_add]]
    have lt40 : ∀ x, x < 256 → ((nI x < (40 : Int32)) ↔ x < 40) := fun x hx => ⟨fun q => Decidable.byContradiction (fun w => nI_nlt (b := 40) (show 40 ≤ x by omega) (by omega) q), fun q => nI_lt (b := 40) q (by decide)⟩
    by_cases c0 : tx (iP tx i) ≤ U
    · rw [if_neg (nI_nlt c0 (by omega))]
      by_cases c1 : tx (iP tx i + 1) < 40
      · rw [if_pos ((lt40 _ b1).mpr c1)]
        by_cases c2 : tx (iP tx i + 2) < 40
        · rw [if_pos ((lt40 _ b2).mpr c2)]
          by_cases c3 : tx (iP tx i + 3) < 40
          · rw [if_pos ((lt40 _ b3).mpr c3)]
            by_cases c4 : tx (iP tx i + 4) ≤ 99
            · rw [if_neg (show ¬ (99 : Int32) < nI (tx (iP tx i + 4)) from nI_nlt (a := 99) c4 (by decide))]
              by_cases c5 : tx (iP tx i + 5) ≤ 1
              · rw [if_neg (show ¬ (1 : Int32) < nI (tx (iP tx i + 5)) from nI_nlt (a := 1) c5 (by decide))]
                exact Or.inl ⟨⟨c0, c1, c2, c3, c4, c5⟩, rfl⟩
              · rw [if_pos (show (1 : Int32) < nI (tx (iP tx i + 5)) from nI_lt (a := 1) (by omega) (by omega))]
                exact Or.inr ⟨fun q => c5 q.2.2.2.2.2, rfl⟩
            · rw [if_pos (show (99 : Int32) < nI (tx (iP tx i + 4)) from nI_lt (a := 99) (by omega) (by omega))]
              exact Or.inr ⟨fun q => c4 q.2.2.2.2.1, rfl⟩
          · rw [if_neg (fun q => c3 ((lt40 _ b3).mp q))]
            exact Or.inr ⟨fun q => c3 q.2.2.2.1, rfl⟩
        · rw [if_neg (fun q => c2 ((lt40 _ b2).mp q))]
          exact Or.inr ⟨fun q => c2 q.2.2.1, rfl⟩
      · rw [if_neg (fun q => c1 ((lt40 _ b1).mp q))]
        exact Or.inr ⟨fun q => c1 q.2.1, rfl⟩
    · rw [if_pos (nI_lt (by omega) (by omega))]
      exact Or.inr ⟨fun q => c0 q.1, rfl⟩
  | succ k ih =>
    intro r lk hr L
    have b0 := hb (iP tx i + 6 + r) (by omega)
    have iLe : iL tx (4 * i + r) = iTo (tx (iP tx i + 6 + r)) := by unfold iL; rw [show (4 * i + r) / 4 = i by omega, show (4 * i + r) % 4 = r by omega, if_neg h]
    have eP : (nI (iP tx i) + 6) + nI r = nI (iP tx i + 6 + r) := by rw [show (6 : Int32) = nI 6 from rfl, nI_add, nI_add]
    have eL : (4 * (40 + nI i)) + nI r = nI (160 * 1 + (4 * i + r)) := by
      rw [show (40 : Int32) = nI 40 from rfl, nI_add, show (4 : Int32) = nI 4 from rfl, pk_mul, nI_add]
      congr 1
      omega
    have step : ∀ x : Int32, x = bno (iTo (tx (iP tx i + 6 + r))) → ∃ lk', ((iOr tx U i ∧ mX12_thingOn_109 (nI i) (nI (iP tx i)) (nI b) tp ut k (r + 1) sz tr ca pl ag mk (upd lk (160 * 1 + (4 * i + r)) x) = some (nI (iP tx i + 10), sz, tr, ca, pl, ag, mk, lk')) ∨ (¬ iOr tx U i ∧ mX12_thingOn_109 (nI i) (nI (iP tx i)) (nI b) tp ut k (r + 1) sz tr ca pl ag mk (upd lk (160 * 1 + (4 * i + r)) x) = some (-1, sz, tr, ca, pl, ag, mk, lk'))) ∧ (∀ j, j < 4 * i + 4 → lk' (160 * 1 + j) = bno (iL tx j)) ∧ lG 1 lk lk' := by
      intro x hx
      obtain ⟨lk', q1, q2, q3⟩ := ih (r + 1) (upd lk (160 * 1 + (4 * i + r)) x) (by omega) (fun j hj => by
        by_cases e : j = 4 * i + r
        · rw [e, pk_us, iLe]; exact hx
        · rw [pk_un (by omega)]; exact L j (by omega))
      refine ⟨lk', q1, q2, fun m hm => ?_⟩
      rw [q3 m hm, pk_un (by omega)]
    rw [mX12_thingOn_109, eP, if_pos (zb _ _ (by omega) (by decide)), zc _ (by omega), ht _ (by omega), eL]
    by_cases x255 : tx (iP tx i + 6 + r) = 255
    · rw [if_pos (show nI (tx (iP tx i + 6 + r)) = 255 by rw [x255]; rfl), if_pos (zb _ _ (by omega) (by decide)), zc _ (by omega)]
      exact step _ (by unfold iTo; rw [if_pos x255]; rfl)
    · rw [if_neg (show ¬ nI (tx (iP tx i + 6 + r)) = 255 from fun q => x255 ((nI_eq (b := 255) (by omega) (by decide)).mp q)), if_pos (zb _ _ (by omega) (by decide)), zc _ (by omega)]
      exact step _ (by unfold iTo; rw [if_neg x255, bnoS])
/-- a thing is read -/
theorem ir_thing (ht : ∀ i, i < n → tp i = nI (tx i)) (hb : ∀ i, i < n → tx i < 256) (hn : n ≤ 1600) (hbk : b < 2) (hU : ut b = nI U) (hU2 : U ≤ 99) {i : Nat} (hi : i < 40) (hp : iP tx i < n) (h10 : tx (iP tx i) = 0 ∨ iP tx i + 10 < n) {sz tr ca pl ag mk lk : Nat → Int32} (R : rI tx i sz tr ca pl ag mk lk) : ∃ sz' tr' ca' pl' ag' mk' lk', (((tx (iP tx i) = 0 ∨ iOr tx U i) ∧ mX12_thingOn (nI i) (nI (iP tx i)) (nI b) tp ut sz tr ca pl ag mk lk = some (nI (iP tx (i + 1)), sz', tr', ca', pl', ag', mk', lk')) ∨ (¬ (tx (iP tx i) = 0 ∨ iOr tx U i) ∧ mX12_thingOn (nI i) (nI (iP tx i)) (nI b) tp ut sz tr ca pl ag mk lk = some (-1, sz', tr', ca', pl', ag', mk', lk'))) ∧ rI tx (i + 1) sz' tr' ca' pl' ag' mk' lk' ∧ r1F sz tr ca pl ag mk lk sz' tr' ca' pl' ag' mk' lk' := by
  obtain ⟨lk0, l0, e⟩ := r_clears (sz := sz) (tr := tr) (ca := ca) (pl := pl) (ag := ag) (mk := mk) (lk := lk) (v := 1) (by decide) hi
  obtain ⟨r1, r2, r3⟩ := R
  have e40 : (40 : Int32) + nI i = nI (40 * 1 + i) := by rw [show (40 : Int32) = nI 40 from rfl, nI_add]
  have g0 : lG 1 lk lk0 := fun m hm => by rw [l0, if_neg (by omega)]
  have k0 : ∀ j, j < 4 * i → lk0 (160 * 1 + j) = bno (iL tx j) := fun j hj => by rw [l0, if_neg (by omega)]; exact r3 j hj
  unfold mX12_thingOn
  rw [show (1 : Int32) = nI 1 from rfl, e, obind]
  simp only [xu_q]
  rw [if_pos (zb _ _ (by omega) (by decide)), zc _ (by omega), ht _ hp]
  have b0 := hb _ hp
  by_cases z : tx (iP tx i) = 0
  · rw [if_pos (show nI (tx (iP tx i)) = 0 by rw [z]; rfl), show nI (iP tx i) + nI 1 = nI (iP tx (i + 1)) by rw [nI_add, iP, if_pos z]]
    refine ⟨_, _, _, _, _, _, _, Or.inl ⟨Or.inl z, rfl⟩, ⟨fun t h => ?_, fun t h p => ?_, fun j hj => ?_⟩, lF_up _ hi _, lF_up _ hi _, lF_up _ hi _, lF_up _ hi _, lF_up _ hi _, lF_up _ hi _, g0⟩
    · by_cases q : t = i
      · rw [q, pk_us, iV_0 z]; rfl
      · rw [pk_un (by omega)]; exact r1 t (by omega)
    · by_cases q : t = i
      · rw [q, iV_0 z] at p; omega
      · rw [pk_un (by omega), pk_un (by omega), pk_un (by omega), pk_un (by omega), pk_un (by omega)]
        exact r2 t (by omega) p
    · by_cases q : j < 4 * i
      · exact k0 j q
      · rw [l0, if_pos (by omega)]
        unfold iL
        rw [show j / 4 = i by omega, if_pos z]
        rfl
  · have h10' := h10.resolve_left z
    rw [if_neg (nI_ne0 (by omega) (by omega)), e40, if_pos (zb _ _ (by omega) (by decide)), nI_add, if_pos (zb _ _ (by omega) (by decide)), show nI (iP tx i) + 2 = nI (iP tx i + 2) by rw [show (2 : Int32) = nI 2 from rfl, nI_add], if_pos (zb _ _ (by omega) (by decide)), show nI (iP tx i) + 3 = nI (iP tx i + 3) by rw [show (3 : Int32) = nI 3 from rfl, nI_add], if_pos (zb _ _ (by omega) (by decide)), show nI (iP tx i) + 4 = nI (iP tx i + 4) by rw [show (4 : Int32) = nI 4 from rfl, nI_add], if_pos (zb _ _ (by omega) (by decide)), show nI (iP tx i) + 5 = nI (iP tx i + 5) by rw [show (5 : Int32) = nI 5 from rfl, nI_add], if_pos (zb _ _ (by omega) (by decide)), zc _ (by omega), zc _ (by omega), zc _ (by omega), zc _ (by omega), zc _ (by omega), zc _ (by omega), ht _ (by omega), ht _ (by omega), ht _ (by omega), ht _ (by omega), ht _ (by omega)]
    have us : ∀ (a : Nat → Int32) (x : Int32), upd a (40 * 1 + i) x (40 + i) = x := fun a x => pk_us
    obtain ⟨lk', q1, q2, q3⟩ := ir_109 ht hb hn hbk hU hU2 hi z h10' (upd (upd sz (40 * 1 + i) 0) (40 * 1 + i) (nI (tx (iP tx i)))) (upd (upd tr (40 * 1 + i) (-1)) (40 * 1 + i) (nI (tx (iP tx i + 1)))) (upd (upd ca (40 * 1 + i) (-1)) (40 * 1 + i) (nI (tx (iP tx i + 2)))) (upd (upd pl (40 * 1 + i) (-1)) (40 * 1 + i) (nI (tx (iP tx i + 3)))) (upd (upd ag (40 * 1 + i) 0) (40 * 1 + i) (nI (tx (iP tx i + 4)))) (upd (upd mk (40 * 1 + i) 0) (40 * 1 + i) (nI (tx (iP tx i + 5)))) (us _ _) (us _ _) (us _ _) (us _ _) (us _ _) 4 0 lk0 rfl (fun j hj => k0 j hj)
    have e10 : nI (iP tx i + 10) = nI (iP tx (i + 1)) := by rw [iP, if_neg z]
    have up2 : ∀ (a : Nat → Int32) (x y : Int32), lF 1 a (upd (upd a (40 * 1 + i) x) (40 * 1 + i) y) := fun a x y m hm => by rw [pk_un (by omega), pk_un (by omega)]
    refine ⟨upd (upd sz (40 * 1 + i) 0) (40 * 1 + i) (nI (tx (iP tx i))), upd (upd tr (40 * 1 + i) (-1)) (40 * 1 + i) (nI (tx (iP tx i + 1))), upd (upd ca (40 * 1 + i) (-1)) (40 * 1 + i) (nI (tx (iP tx i + 2))), upd (upd pl (40 * 1 + i) (-1)) (40 * 1 + i) (nI (tx (iP tx i + 3))), upd (upd ag (40 * 1 + i) 0) (40 * 1 + i) (nI (tx (iP tx i + 4))), upd (upd mk (40 * 1 + i) 0) (40 * 1 + i) (nI (tx (iP tx i + 5))), lk', ?_, ⟨fun t h => ?_, fun t h p => ?_, fun j hj => q2 j (by omega)⟩, up2 _ _ _, up2 _ _ _, up2 _ _ _, up2 _ _ _, up2 _ _ _, up2 _ _ _, fun m hm => by rw [q3 m hm, g0 m hm]⟩
    · rcases q1 with ⟨a, e⟩ | ⟨a, e⟩
      · rw [e10] at e
        exact Or.inl ⟨Or.inr a, e⟩
      · exact Or.inr ⟨fun y => a (y.resolve_left z), e⟩
    · by_cases q : t = i
      · rw [q, pk_us, iV_1 z]; rfl
      · rw [pk_un (by omega), pk_un (by omega)]; exact r1 t (by omega)
    · by_cases q : t = i
      · rw [q, pk_us, pk_us, pk_us, pk_us, pk_us, iV_1 z, iV_1 z, iV_1 z, iV_1 z, iV_1 z]
        exact ⟨rfl, rfl, rfl, rfl, rfl⟩
      · rw [pk_un (by omega), pk_un (by omega), pk_un (by omega), pk_un (by omega), pk_un (by omega), pk_un (by omega), pk_un (by omega), pk_un (by omega), pk_un (by omega), pk_un (by omega)]
        exact r2 t (by omega) p
end IR
