section IS
variable {tx : Nat → Nat} {n U b : Nat} {tp ut : Nat → Int32}
theorem r1F_rf (sz tr ca pl ag mk lk : Nat → Int32) : r1F sz tr ca pl ag mk lk sz tr ca pl ag mk lk := ⟨fun _ _ => rfl, fun _ _ => rfl, fun _ _ => rfl, fun _ _ => rfl, fun _ _ => rfl, fun _ _ => rfl, fun _ _ => rfl⟩
theorem r1F_tr {sz tr ca pl ag mk lk sz' tr' ca' pl' ag' mk' lk' sz2 tr2 ca2 pl2 ag2 mk2 lk2 : Nat → Int32} (h : r1F sz tr ca pl ag mk lk sz' tr' ca' pl' ag' mk' lk') (k : r1F sz' tr' ca' pl' ag' mk' lk' sz2 tr2 ca2 pl2 ag2 mk2 lk2) : r1F sz tr ca pl ag mk lk sz2 tr2 ca2 pl2 ag2 mk2 lk2 :=
  ⟨lF_tr h.1 k.1, lF_tr h.2.1 k.2.1, lF_tr h.2.2.1 k.2.2.1, lF_tr h.2.2.2.1 k.2.2.2.1, lF_tr h.2.2.2.2.1 k.2.2.2.2.1, lF_tr h.2.2.2.2.2.1 k.2.2.2.2.2.1, lG_tr h.2.2.2.2.2.2 k.2.2.2.2.2.2⟩
/-- the things of an image -/
theorem ir_126 (ht : ∀ i, i < n → tp i = nI (tx i)) (hb : ∀ i, i < n → tx i < 256) (hn : n ≤ 1600) (h50 : 50 < n) (hbk : b < 2) (hU : ut b = nI U) (hU2 : U ≤ 99) (so rt km kr : Nat → Int32) : ∀ k i (sz tr ca pl ag mk lk : Nat → Int32), i + k = 40 → rI tx i sz tr ca pl ag mk lk → ((iP tx 40 = n - 1 ∧ ∀ j, i ≤ j → j < 40 → iOkR tx n U j) ∧ ∃ sz' tr' ca' pl' ag' mk' lk', mX12_comesOn_126 (nI n) (nI b) tp ut k i (nI (iP tx i)) so sz tr ca pl ag mk lk rt km kr = mX12_comesOn_196 (nI b) tp ut 8 0 so sz' tr' ca' pl' ag' mk' lk' rt km kr ∧ rI tx 40 sz' tr' ca' pl' ag' mk' lk' ∧ r1F sz tr ca pl ag mk lk sz' tr' ca' pl' ag' mk' lk') ∨ (¬ (iP tx 40 = n - 1 ∧ ∀ j, i ≤ j → j < 40 → iOkR tx n U j) ∧ ∃ sz' tr' ca' pl' ag' mk' lk', mX12_comesOn_126 (nI n) (nI b) tp ut k i (nI (iP tx i)) so sz tr ca pl ag mk lk rt km kr = some (false, so, sz', tr', ca', pl', ag', mk', lk', rt, km, kr) ∧ r1F sz tr ca pl ag mk lk sz' tr' ca' pl' ag' mk' lk') := by
  have n1 : nI n - 1 = nI (n - 1) := pk_sub (b := 1) (by omega)
  intro k
  induction k with
  | zero =>
    intro i sz tr ca pl ag mk lk hi R
    have : i = 40 := by omega
    subst this
    have p40 := iP_le (tx := tx) 40
    rw [mX12_comesOn_126, n1]
    by_cases h : iP tx 40 = n - 1
    · rw [if_pos (show nI (iP tx 40) = nI (n - 1) by rw [h])]
      exact Or.inl ⟨⟨h, fun j h1 h2 => by omega⟩, sz, tr, ca, pl, ag, mk, lk, rfl, R, r1F_rf sz tr ca pl ag mk lk⟩
    · rw [if_neg (fun q => h ((nI_eq (by omega) (by omega)).mp q))]
      exact Or.inr ⟨fun q => h q.1, sz, tr, ca, pl, ag, mk, lk, rfl, r1F_rf sz tr ca pl ag mk lk⟩
  | succ k ih =>
    intro i sz tr ca pl ag mk lk hi R
    have hi40 : i < 40 := by omega
    have pl1 := iP_le (tx := tx) i
    have up : iP tx (i + 1) ≤ iP tx 40 := by have := iP_up (tx := tx) (i + 1) k; rw [show i + 1 + k = 40 by omega] at this; exact this
    have up1 : iP tx i < iP tx (i + 1) := by rw [iP]; split <;> omega
    rw [mX12_comesOn_126, n1]
    by_cases hp : iP tx i < n - 1
    · rw [if_pos (nI_lt hp (by omega)), if_pos (zb _ _ (by omega) (by decide)), zc _ (by omega), ht _ (by omega)]
      have b0 := hb (iP tx i) (by omega)
      have more : iOkR tx n U i → ((iP tx 40 = n - 1 ∧ ∀ j, i + 1 ≤ j → j < 40 → iOkR tx n U j) ↔ (iP tx 40 = n - 1 ∧ ∀ j, i ≤ j → j < 40 → iOkR tx n U j)) := fun h => ⟨fun q => ⟨q.1, fun j h1 h2 => by
          by_cases e : j = i
          · subst e; exact h
          · exact q.2 j (by omega) h2⟩, fun q => ⟨q.1, fun j h1 h2 => q.2 j (by omega) h2⟩⟩
      have go : (tx (iP tx i) = 0 ∨ iP tx i + 10 < n) → ((iP tx 40 = n - 1 ∧ ∀ j, i ≤ j → j < 40 → iOkR tx n U j) ∧ ∃ sz' tr' ca' pl' ag' mk' lk', mX12_comesOn_163 (nI b) tp ut ag ca km kr lk mk pl rt sz so tr i (nI (iP tx i)) (fun zx3_126 za_stepOf_126 za_sizeOf_126 za_trainOf_126 za_carOf_126 za_placeOf_126 za_ageOf_126 za_markOf_126 za_linkTo_126 za_rootTo_126 za_keptMany_126 za_keptRow_126 => mX12_comesOn_126 (nI n) (nI b) tp ut k (i + 1) zx3_126 za_stepOf_126 za_sizeOf_126 za_trainOf_126 za_carOf_126 za_placeOf_126 za_ageOf_126 za_markOf_126 za_linkTo_126 za_rootTo_126 za_keptMany_126 za_keptRow_126) = mX12_comesOn_196 (nI b) tp ut 8 0 so sz' tr' ca' pl' ag' mk' lk' rt km kr ∧ rI tx 40 sz' tr' ca' pl' ag' mk' lk' ∧ r1F sz tr ca pl ag mk lk sz' tr' ca' pl' ag' mk' lk') ∨ (¬ (iP tx 40 = n - 1 ∧ ∀ j, i ≤ j → j < 40 → iOkR tx n U j) ∧ ∃ sz' tr' ca' pl' ag' mk' lk', mX12_comesOn_163 (nI b) tp ut ag ca km kr lk mk pl rt sz so tr i (nI (iP tx i)) (fun zx3_126 za_stepOf_126 za_sizeOf_126 za_trainOf_126 za_carOf_126 za_placeOf_126 za_ageOf_126 za_markOf_126 za_linkTo_126 za_rootTo_126 za_keptMany_126 za_keptRow_126 => mX12_comesOn_126 (nI n) (nI b) tp ut k (i + 1) zx3_126 za_stepOf_126 za_sizeOf_126 za_trainOf_126 za_carOf_126 za_placeOf_126 za_ageOf_126 za_markOf_126 za_linkTo_126 za_rootTo_126 za_keptMany_126 za_keptRow_126) = some (false, so, sz', tr', ca', pl', ag', mk', lk', rt, km, kr) ∧ r1F sz tr ca pl ag mk lk sz' tr' ca' pl' ag' mk' lk') := by
        intro h10
        obtain ⟨sz', tr', ca', pl', ag', mk', lk', e, R1, F1⟩ := ir_thing ht hb hn hbk hU hU2 hi40 (by omega) h10 R
        unfold mX12_comesOn_163
        rcases e with ⟨a, e⟩ | ⟨a, e⟩
        · rw [e, obind]
          simp only [xu_q]
          have p1 := iP_le (tx := tx) (i + 1)
          rw [if_neg (nI_m1 (by omega)), ← more (by
            rcases a with a | a
            · exact Or.inl a
            · rcases h10 with z | z
              · exact Or.inl z
              · exact Or.inr ⟨z, a⟩)]
          rcases ih (i + 1) sz' tr' ca' pl' ag' mk' lk' (by omega) R1 with ⟨c, sz2, tr2, ca2, pl2, ag2, mk2, lk2, e2, R2, F2⟩ | ⟨c, sz2, tr2, ca2, pl2, ag2, mk2, lk2, e2, F2⟩
          · exact Or.inl ⟨c, sz2, tr2, ca2, pl2, ag2, mk2, lk2, e2, R2, r1F_tr F1 F2⟩
          · exact Or.inr ⟨c, sz2, tr2, ca2, pl2, ag2, mk2, lk2, e2, r1F_tr F1 F2⟩
        · rw [e, obind]
          simp only [xu_q]
          rw [if_pos True.intro]
          refine Or.inr ⟨fun q => a ?_, sz', tr', ca', pl', ag', mk', lk', rfl, F1⟩
          rcases q.2 i (Nat.le_refl _) hi40 with y | y
          · exact Or.inl y
          · exact Or.inr y.2
      by_cases z : tx (iP tx i) = 0
      · rw [if_neg (show ¬ (0 : Int32) < nI (tx (iP tx i)) by rw [z]; decide)]
        exact go (Or.inl z)
      · rw [if_pos (show (0 : Int32) < nI (tx (iP tx i)) from nI_lt (a := 0) (by omega) (by omega)), show (nI (iP tx i) + 6) + 4 = nI (iP tx i + 10) by rw [show (6 : Int32) = nI 6 from rfl, nI_add, show (4 : Int32) = nI 4 from rfl, nI_add]]
        by_cases h10 : iP tx i + 10 < n
        · rw [if_neg (nI_nlt (by omega) (by omega))]
          exact go (Or.inr h10)
        · rw [if_pos (nI_lt (by omega) (by omega))]
          refine Or.inr ⟨fun q => ?_, sz, tr, ca, pl, ag, mk, lk, rfl, r1F_rf sz tr ca pl ag mk lk⟩
          rcases q.2 i (Nat.le_refl _) hi40 with y | y
          · exact z y
          · exact h10 y.1
    · rw [if_neg (nI_nlt (by omega) (by omega))]
      exact Or.inr ⟨fun q => by have := q.1; omega, sz, tr, ca, pl, ag, mk, lk, rfl, r1F_rf sz tr ca pl ag mk lk⟩
theorem ir_aim {sz : Nat → Int32} (hs : ∀ t, t < 40 → sz (40 * 1 + t) = nI (iV tx 0 t)) (hv : ∀ t, t < 40 → iV tx 0 t < 256) {x : Nat} (hx : x < 256) : mX12_isAimed (bno (iTo x)) sz = some (iAim tx x) := by
  unfold mX12_isAimed iAim iTo
  by_cases z : x = 255
  · rw [if_pos z, if_pos (show bno 0 = -1 from rfl), decide_eq_true (Or.inl z)]
  · rw [if_neg z, bnoS, if_neg (nI_m1 (by omega))]
    by_cases h : x < 40
    · have v := hv x h
      rw [if_pos (show nI x < 40 from nI_lt (b := 40) h (by decide)), show (1 : Int32) = nI 1 from rfl, s_isThere 1 (by decide) sz x h, obind, hs x h]
      by_cases p : 0 < iV tx 0 x
      · rw [decide_eq_true ((nIp (by omega)).mpr p), if_pos rfl, decide_eq_true (Or.inr ⟨h, p⟩)]
      · rw [decide_eq_false (fun q => p ((nIp (by omega)).mp q)), if_neg (by decide), decide_eq_false (fun q => by
          rcases q with q | q
          · exact z q
          · exact p q.2)]
    · rw [if_neg (show ¬ nI x < 40 from nI_nlt (b := 40) (by omega) (by omega)), decide_eq_false (fun q => by
          rcases q with q | q
          · exact z q
          · exact h q.1)]
theorem ir_269 (sz tr ca pl ag mk lk so rt km kr : Nat → Int32) (R : rI tx 40 sz tr ca pl ag mk lk) (hv : ∀ t, t < 40 → iV tx 0 t < 256) (hb : ∀ j, j < 160 → tx (iP tx (j / 4)) ≠ 0 → tx (iP tx (j / 4) + 6 + j % 4) < 256) {q : Bool} (hO : mX12_isOrderly (nI b) ut sz tr ca pl = some q) : ∀ k i, i + k = 160 → ((∀ j, i ≤ j → j < 160 → iLk tx j = true) ∧ mX12_comesOn_269 (nI b) ut k i so sz tr ca pl ag mk lk rt km kr = some (q, so, sz, tr, ca, pl, ag, mk, lk, rt, km, kr)) ∨ (¬ (∀ j, i ≤ j → j < 160 → iLk tx j = true) ∧ mX12_comesOn_269 (nI b) ut k i so sz tr ca pl ag mk lk rt km kr = some (false, so, sz, tr, ca, pl, ag, mk, lk, rt, km, kr)) := by
  intro k
  induction k with
  | zero =>
    intro i hi
    rw [mX12_comesOn_269, hO, obind]
    exact Or.inl ⟨fun j h1 h2 => by omega, rfl⟩
  | succ k ih =>
    intro i hi
    have hi160 : i < 160 := by omega
    have e160 : (160 : Int32) + nI i = nI (160 * 1 + i) := by rw [show (160 : Int32) = nI 160 from rfl, nI_add]
    have aim : mX12_isAimed (bno (iL tx i)) sz = some (iLk tx i) := by
      unfold iL iLk
      by_cases z : tx (iP tx (i / 4)) = 0
      · rw [if_pos z, decide_eq_true z, Bool.true_or]
        unfold mX12_isAimed
        rw [if_pos (show bno 0 = -1 from rfl)]
      · rw [if_neg z, decide_eq_false z, Bool.false_or]
        exact ir_aim R.1 hv (hb i hi160 z)
    rw [mX12_comesOn_269, e160, zc _ (by omega), R.2.2 i (by omega), aim, obind]
    cases h : iLk tx i with
    | true =>
      rw [if_pos rfl]
      have more : (∀ j, i + 1 ≤ j → j < 160 → iLk tx j = true) ↔ (∀ j, i ≤ j → j < 160 → iLk tx j = true) := ⟨fun y j h1 h2 => by
        by_cases e : j = i
        · rw [e]; exact h
        · exact y j (by omega) h2, fun y j h1 h2 => y j (by omega) h2⟩
      rw [← more]
      exact ih (i + 1) (by omega)
    | false =>
      rw [if_neg (by decide)]
      exact Or.inr ⟨fun y => by rw [y i (Nat.le_refl _) hi160] at h; exact absurd h (by decide), rfl⟩
end IS
