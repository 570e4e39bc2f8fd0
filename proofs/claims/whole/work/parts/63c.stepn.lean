/-- other layers of links stay -/
def lG (v : Nat) (a a' : Nat → Int32) : Prop := ∀ i, i < 160 * v ∨ 160 * v + 160 ≤ i → a' i = a i
theorem lG_tr {v : Nat} {a b c : Nat → Int32} (h : lG v a b) (k : lG v b c) : lG v a c := fun i hi => (k i hi).trans (h i hi)
theorem gDr_0 (h : GH) (p : Nat → Bool) {a : Nat} (ha : a = 0 ∨ a = 4 ∨ a = 5) (b : Nat) : gDr h p a b = if p b = true then 0 else h a b := by
  unfold gDr
  by_cases e : p b = true
  · rw [if_pos ⟨ha, e⟩, if_pos e]
  · rw [if_neg (fun q => e q.2), if_neg e, if_neg (fun q => by omega)]
theorem gDr_6 (h : GH) (p : Nat → Bool) (b : Nat) : gDr h p 6 b = if p (b / 4) = true then 0 else h 6 b := by
  unfold gDr
  rw [if_neg (fun q => by omega)]
  by_cases e : p (b / 4) = true
  · rw [if_pos ⟨rfl, e⟩, if_pos e]
  · rw [if_neg (fun q => e q.2), if_neg e]
theorem gDr_o (h : GH) (p : Nat → Bool) {a : Nat} (ha : a ≠ 0 ∧ a ≠ 4 ∧ a ≠ 5 ∧ a ≠ 6) (b : Nat) : gDr h p a b = h a b := by
  unfold gDr
  rw [if_neg (fun q => by omega), if_neg (fun q => by omega)]
theorem gDr_n (h : GH) (p : Nat → Bool) {a b : Nat} (ha : a ≠ 6) (hb : p b = false) : gDr h p a b = h a b := by
  unfold gDr
  rw [if_neg (fun q => by rw [hb] at q; exact absurd q.2 (by decide)), if_neg (fun q => ha q.1)]
section SN
variable {v : Nat} {h : GH} {sz tr ca pl ag mk lk rt st sT : Nat → Int32}
theorem r_clears52 (hv : v < 22) {t : Nat} (ht : t < 40) : ∀ k i (lk : Nat → Int32), i + k = 4 → ∃ lk', (∀ j, lk' j = if 4 * (40 * v + t) + i ≤ j ∧ j < 4 * (40 * v + t) + 4 then -1 else lk j) ∧
    mX12_clears_52 (nI v) (nI t) sz tr ca pl ag mk k i lk = some (upd sz (40 * v + t) 0, upd tr (40 * v + t) (-1), upd ca (40 * v + t) (-1), upd pl (40 * v + t) (-1), upd ag (40 * v + t) 0, upd mk (40 * v + t) 0, lk') := by
  intro k
  induction k with
  | zero =>
    intro i lk hi
    refine ⟨lk, fun j => by rw [if_neg (by omega)], ?_⟩
    rw [mX12_clears_52, zc_t v t hv ht]
  | succ k ih =>
    intro i lk hi
    obtain ⟨lk', e1, e2⟩ := ih (i + 1) (upd lk (4 * (40 * v + t) + i) (-1)) (by omega)
    refine ⟨lk', fun j => ?_, ?_⟩
    · rw [e1]
      by_cases z : j = 4 * (40 * v + t) + i
      · subst z; rw [if_neg (by omega), if_pos (by omega)]; exact pk_us
      · rw [pk_un z]
        by_cases y : 4 * (40 * v + t) + (i + 1) ≤ j ∧ j < 4 * (40 * v + t) + 4
        · rw [if_pos y, if_pos (by omega)]
        · rw [if_neg y, if_neg (by omega)]
    · rw [mX12_clears_52, zb_l v t i hv ht (by omega), if_pos rfl, zc_l v t i hv ht (by omega)]
      exact e2
theorem r_clears (hv : v < 22) {t : Nat} (ht : t < 40) : ∃ lk', (∀ j, lk' j = if 4 * (40 * v + t) ≤ j ∧ j < 4 * (40 * v + t) + 4 then -1 else lk j) ∧
    mX12_clears (nI v) (nI t) sz tr ca pl ag mk lk = some (upd sz (40 * v + t) 0, upd tr (40 * v + t) (-1), upd ca (40 * v + t) (-1), upd pl (40 * v + t) (-1), upd ag (40 * v + t) 0, upd mk (40 * v + t) 0, lk') := by
  unfold mX12_clears
  rw [zb_t v t hv ht, if_pos rfl]
  exact r_clears52 hv ht 4 0 lk rfl
theorem rM_drop {p q : Nat → Bool} (M : rM v (gDr h p) sz tr ca pl ag mk lk rt st sT) {t : Nat} (ht : t < 40) (hq : ∀ u, q u = (p u || decide (u = t))) {lk' : Nat → Int32} (hl : ∀ j, lk' j = if 4 * (40 * v + t) ≤ j ∧ j < 4 * (40 * v + t) + 4 then -1 else lk j) :
    rM v (gDr h q) (upd sz (40 * v + t) 0) (upd tr (40 * v + t) (-1)) (upd ca (40 * v + t) (-1)) (upd pl (40 * v + t) (-1)) (upd ag (40 * v + t) 0) (upd mk (40 * v + t) 0) lk' rt st sT := by
  have qt : q t = true := by rw [hq, decide_eq_true rfl, Bool.or_true]
  have qn : ∀ u, u ≠ t → q u = p u := fun u e => by rw [hq, decide_eq_false e, Bool.or_false]
  have d : ∀ a u, u ≠ t → a ≠ 6 → gDr h q a u = gDr h p a u := by
    intro a u e ha
    by_cases z : p u = true
    · unfold gDr
      rw [qn u e, z]
      by_cases y : a = 0 ∨ a = 4 ∨ a = 5
      · rw [if_pos ⟨y, rfl⟩, if_pos ⟨y, rfl⟩]
      · rw [if_neg (fun x => y x.1), if_neg (fun x => ha x.1), if_neg (fun x => y x.1), if_neg (fun x => ha x.1)]
    · rw [gDr_n h q ha (by rw [qn u e]; exact Bool.eq_false_iff.mpr z), gDr_n h p ha (Bool.eq_false_iff.mpr z)]
  refine ⟨fun u hu => ?_, fun u hu z => ?_, fun u hu e => ?_, fun j hj => ?_, fun k hk => ?_⟩
  · have m := M.1 u hu
    rw [gDr_o h p (a := 9) (by decide)] at m
    rw [gDr_o h q (a := 9) (by decide)]
    refine ⟨?_, m.2⟩
    by_cases e : u = t
    · subst e; rw [pk_us, gDr_0 h q (Or.inl rfl), if_pos qt]; rfl
    · rw [pk_un (by omega), d 0 u e (by decide)]; exact m.1
  · have e : u ≠ t := fun e => by subst e; rw [gDr_0 h q (Or.inl rfl), if_pos qt] at z; omega
    have e2 : 40 * v + u ≠ 40 * v + t := by omega
    rw [d 0 u e (by decide)] at z
    rw [d 1 u e (by decide), d 2 u e (by decide), d 3 u e (by decide), d 4 u e (by decide), d 5 u e (by decide), pk_un e2, pk_un e2, pk_un e2, pk_un e2, pk_un e2]
    exact M.2.1 u hu z
  · rw [gDr_o h q (by decide)] at e ⊢
    have := M.2.2.1 u hu
    rw [gDr_o h p (by decide), gDr_o h p (by decide)] at this
    exact this e
  · have m := M.2.2.2.1 j hj
    rw [hl, gDr_6]
    rw [gDr_6] at m
    by_cases e : j / 4 = t
    · rw [if_pos (by omega), e, qt, if_pos rfl]; rfl
    · rw [if_neg (by omega), qn _ e]; exact m
  · have m := M.2.2.2.2 k hk
    rw [gDr_o h p (by decide)] at m
    rw [gDr_o h q (by decide)]; exact m
theorem lG_clear {t : Nat} (ht : t < 40) {lk' : Nat → Int32} (hl : ∀ j, lk' j = if 4 * (40 * v + t) ≤ j ∧ j < 4 * (40 * v + t) + 4 then -1 else lk j) : lG v lk lk' := fun i hi => by
  rw [hl, if_neg (by omega)]
theorem r_e183 (hv : v < 22) (M : rM v h sz tr ca pl ag mk lk rt st sT) (N : iN h) (fe x3 x4 rn wt co : Int32) (np ask : Nat → Int32) (sk : Nat → Int64) : ∀ k i (im : Nat → Int32), i + k = 40 → (∀ t, t < i → im t = if gWt h t = true then 1 else 0) →
    ∃ im', (∀ t, t < 40 → im' t = if gWt h t = true then 1 else 0) ∧ mX12_empties_183 (nI v) fe sz ag lk np k i x3 x4 rn wt co tr ca pl mk sk ask im st sT = mX12_empties_221 (nI v) np 40 0 x3 x4 rn fe wt co sz tr ca pl ag mk lk sk ask im' st sT := by
  intro k
  induction k with
  | zero =>
    intro i im hi h1
    exact ⟨im, fun t ht => h1 t (by omega), by rw [mX12_empties_183]⟩
  | succ k ih =>
    intro i im hi h1
    have hi40 : i < 40 := by omega
    have step : ∀ x : Int32, x = (if gWt h i = true then 1 else 0) → ∀ t, t < i + 1 → upd im i x t = if gWt h t = true then 1 else 0 := by
      intro x hx t ht
      by_cases e : t = i
      · subst e; rw [pk_us, hx]
      · rw [pk_un e]; exact h1 t (by omega)
    rw [mX12_empties_183, r_wait hv M N hi40, obind, zc i (by omega)]
    by_cases w : gWt h i = true
    · rw [if_pos w]
      exact ih (i + 1) (upd im i 1) (by omega) (step 1 (by rw [if_pos w]))
    · rw [if_neg w]
      exact ih (i + 1) (upd im i 0) (by omega) (step 0 (by rw [if_neg w]))
theorem r_e221 (hv : v < 22) (p : Nat → Bool) (np im : Nat → Int32) (him : ∀ t, t < 40 → im t = if p t = true then 1 else 0) (x3 x4 rn wt co : Int32) (sk : Nat → Int64) (ask : Nat → Int32) : ∀ k i (sz tr ca pl ag mk lk : Nat → Int32), i + k = 40 → rM v (gDr h (fun u => decide (u < i) && p u)) sz tr ca pl ag mk lk rt st sT →
    ∃ sz' tr' ca' pl' ag' mk' lk', rM v (gDr h (fun u => decide (u < 40) && p u)) sz' tr' ca' pl' ag' mk' lk' rt st sT ∧ (lF v sz sz' ∧ lF v tr tr' ∧ lF v ca ca' ∧ lF v pl pl' ∧ lF v ag ag' ∧ lF v mk mk' ∧ lG v lk lk') ∧
      mX12_empties_221 (nI v) np k i x3 x4 rn (nI (fb_ct p i)) wt co sz tr ca pl ag mk lk sk ask im st sT = mX12_empties_221 (nI v) np 0 40 x3 x4 rn (nI (fb_ct p 40)) wt co sz' tr' ca' pl' ag' mk' lk' sk ask im st sT := by
  intro k
  induction k with
  | zero =>
    intro i sz tr ca pl ag mk lk hi M
    have : i = 40 := by omega
    subst this
    exact ⟨sz, tr, ca, pl, ag, mk, lk, M, ⟨lF_rf v _, lF_rf v _, lF_rf v _, lF_rf v _, lF_rf v _, lF_rf v _, fun _ _ => rfl⟩, rfl⟩
  | succ k ih =>
    intro i sz tr ca pl ag mk lk hi M
    have hi40 : i < 40 := by omega
    have hs := fb_ct_succ p i
    rw [mX12_empties_221, zc i (by omega), him i hi40]
    by_cases w : p i = true
    · rw [if_pos w, if_neg (show ¬ (1 : Int32) = 0 by decide)]
      obtain ⟨lk', e1, e2⟩ := r_clears (sz := sz) (tr := tr) (ca := ca) (pl := pl) (ag := ag) (mk := mk) (lk := lk) hv hi40
      have M' := rM_drop (q := fun u => decide (u < i + 1) && p u) M hi40 (fun u => by
        by_cases e : u = i
        · subst e; simp [w]
        · by_cases y : u < i
          · simp [y, e, show u < i + 1 by omega]
          · simp [y, e, show ¬ u < i + 1 by omega]) e1
      obtain ⟨sz', tr', ca', pl', ag', mk', lk2, k1, ⟨k2, k3, k4, k5, k6, k7, k8⟩, k9⟩ := ih (i + 1) _ _ _ _ _ _ _ (by omega) M'
      refine ⟨sz', tr', ca', pl', ag', mk', lk2, k1, ⟨lF_tr (lF_up sz hi40 _) k2, lF_tr (lF_up tr hi40 _) k3, lF_tr (lF_up ca hi40 _) k4, lF_tr (lF_up pl hi40 _) k5, lF_tr (lF_up ag hi40 _) k6, lF_tr (lF_up mk hi40 _) k7, lG_tr (lG_clear hi40 e1) k8⟩, ?_⟩
      rw [e2, obind, xu_r, xu_r, xu_r, xu_r, xu_r, xu_r, nI_1]
      rw [hs, if_pos w] at k9
      exact k9
    · rw [if_neg w, if_pos rfl]
      have M' : rM v (gDr h (fun u => decide (u < i + 1) && p u)) sz tr ca pl ag mk lk rt st sT := by
        have : (fun u => decide (u < i + 1) && p u) = (fun u => decide (u < i) && p u) := funext (fun u => by
          by_cases e : u = i
          · subst e; simp [w]
          · by_cases y : u < i
            · simp [y, show u < i + 1 by omega]
            · simp [y, show ¬ u < i + 1 by omega])
        rw [this]; exact M
      obtain ⟨sz', tr', ca', pl', ag', mk', lk2, k1, k2, k9⟩ := ih (i + 1) _ _ _ _ _ _ _ (by omega) M'
      refine ⟨sz', tr', ca', pl', ag', mk', lk2, k1, k2, ?_⟩
      rw [hs, if_neg w] at k9
      exact k9
end SN
