theorem z_up6 {g : Nat → Nat → Nat} {lk : Nat → Int32} (hl : ∀ j, j < 160 → lk j = bno (g 6 j)) (i z : Nat) (x : Int32) (hx : x = bno z) : ∀ j, j < 160 → upd lk i x j = bno (gset g 6 i z 6 j) := by
  intro j hj
  by_cases e : j = i
  · subst e; rw [pk_us, gset_s]; exact hx
  · rw [pk_un e, gset_n g z (fun q => e q.2)]; exact hl j hj
theorem z_up7 {g : Nat → Nat → Nat} {rt : Nat → Int32} (hr : ∀ k, k < 8 → rt k = bno (g 7 k)) (i z : Nat) : ∀ k, k < 8 → rt k = bno (gset g 6 i z 7 k) := by
  intro k hk
  rw [gset_n g z (fun q => absurd q.1 (by decide))]; exact hr k hk
/-- all rows by which t lives -/
def gRows (g : Nat → Nat → Nat) (t : Nat) (n : Nat) : Nat := fb_sm (fun l => if gL g (l / 4) = true then gRow g t l else 0) n
section OD
variable {W : Nat → Bool} {g : Nat → Nat → Nat} {th : Int64} (lk rt : Nat → Int32)
theorem c_rows_17 (h : gok W g) (hth : zh th W) (hl : ∀ j, j < 160 → lk j = bno (g 6 j)) (hr : ∀ k, k < 8 → rt k = bno (g 7 k)) (t : Nat) (ht : t < 40) : ∀ (k i : Nat), i + k = 160 → mX0_rowsAlive_17 (nI t) th lk rt k i (nI (gRows g t i)) lk = (nI (gRows g t 160), lk) := by
  intro k
  induction k with
  | zero => intro i hi; rw [show i = 160 by omega]; rfl
  | succ k ih =>
    intro i hi
    have hi2 : i < 160 := by omega
    have hd : i / 4 < 40 := by omega
    have hz := z_live h hth lk rt hl hr
    have next := ih (i + 1) (by omega)
    have e1 : gRows g t (i + 1) = gRows g t i + (if gL g (i / 4) = true then gRow g t i else 0) := fb_sm_succ _ _
    rw [mX0_rowsAlive_17, z_d4 i hi2, zh_in hz hd, zc i (by omega)]
    by_cases h1 : gL g (i / 4) = true
    · rw [if_pos h1]
      rw [if_pos h1] at e1
      have hz0 := z_live (gok_6 h i) hth (upd lk i (-1)) rt (z_up6 hl i 0 (-1) rfl) (z_up7 hr i 0)
      rw [zh_in hz0 ht, gRow_eq hi2 ht h1] at *
      by_cases h2 : gL (gset g 6 i 0) t = true
      · rw [if_pos h2] at *
        rw [zh_cnt hz, nI_add, upd_back, ← e1]
        exact next
      · rw [if_neg h2] at *
        have hD := c_lead (upd lk i (-1)) (gL g) t (gok_6 h i) (z_up6 hl i 0 (-1) rfl) (fun x y hx hy hLx he => gL_next hx hy hLx (gLk_60 he)) ht _ hz
        rw [zh_cnt hD, nI_add, upd_back, ← e1]
        exact next
    · rw [if_neg h1]
      rw [if_neg h1] at e1
      replace e1 : gRows g t (i + 1) = gRows g t i := by omega
      rw [← e1]
      exact next
theorem c_rows (h : gok W g) (hth : zh th W) (hl : ∀ j, j < 160 → lk j = bno (g 6 j)) (hr : ∀ k, k < 8 → rt k = bno (g 7 k)) (t : Nat) (ht : t < 40) : mX0_rowsAlive (nI t) th lk rt = (nI (gRows g t 160), lk) :=
  c_rows_17 lk rt h hth hl hr t ht 160 0 rfl
end OD
/-- the living ones by number -/
def gLiv (g : Nat → Nat → Nat) (lv : Nat → Int32) : Prop := ∀ t, t < 40 → gL g t = true → lv (fb_ct (gL g) t) = nI t
theorem gLiv_ex {g : Nat → Nat → Nat} {lv : Nat → Int32} (h : gLiv g lv) {j : Nat} (hj : j < fb_ct (gL g) 40) : ∃ t, t < 40 ∧ gL g t = true ∧ fb_ct (gL g) t = j ∧ lv j = nI t := by
  obtain ⟨t, a, b, c⟩ := fb_ct_kth hj
  exact ⟨t, a, b, c, by rw [← c]; exact h t a b⟩
section OR
variable {W : Nat → Bool} {g : Nat → Nat → Nat} (lk rt : Nat → Int32)
theorem r_livings_13 (af aq : Nat → Int32) (hf : ∀ t, t < 40 → (af t = 100000000 ↔ gL g t = false)) : ∀ (k i : Nat) (lv : Nat → Int32), i + k = 40 → (∀ t, t < i → gL g t = true → lv (fb_ct (gL g) t) = nI t) → ∃ lv', gLiv g lv' ∧ mX12_livings_13 k i (nI (fb_ct (gL g) i)) af aq lv = some (nI (fb_ct (gL g) 40), af, aq, lv') := by
  intro k
  induction k with
  | zero => intro i lv hi h; exact ⟨lv, fun t ht => h t (by omega), by rw [show i = 40 by omega]; rfl⟩
  | succ k ih =>
    intro i lv hi h
    have hi40 : i < 40 := by omega
    have e1 := fb_ct_succ (gL g) i
    have hle := fb_ct_le (gL g) i
    rw [mX12_livings_13, zc i (by omega)]
    cases hz : gL g i with
    | false =>
      rw [if_pos ((hf i hi40).mpr hz)]
      rw [if_neg (by rw [hz]; decide)] at e1
      replace e1 : fb_ct (gL g) (i + 1) = fb_ct (gL g) i := by omega
      rw [← e1]
      refine ih (i + 1) lv (by omega) (fun t ht hL => ?_)
      by_cases e : t = i
      · subst e; rw [hz] at hL; exact absurd hL (by decide)
      · exact h t (by omega) hL
    | true =>
      rw [if_neg (fun q => by have := (hf i hi40).mp q; rw [hz] at this; exact absurd this (by decide)), zb (fb_ct (gL g) i) 40 (by omega) (by decide), zc (fb_ct (gL g) i) (by omega), if_pos rfl, nI_1]
      rw [if_pos hz] at e1
      rw [← e1]
      refine ih (i + 1) _ (by omega) (fun t ht hL => ?_)
      by_cases e : t = i
      · subst e; exact pk_us
      · have : fb_ct (gL g) t ≠ fb_ct (gL g) i := fun q => e (fb_ct_kth_one hL hz q)
        rw [pk_un this]; exact h t (by omega) hL
theorem r_livings (h : gok W g) (v : Nat) (hv : v < 22) (hl : ∀ j, j < 160 → lk (160 * v + j) = bno (g 6 j)) (hr : ∀ k, k < 8 → rt (8 * v + k) = bno (g 7 k)) (af aq lv : Nat → Int32) :
    ∃ af' aq' lv', mX12_livings (nI v) lk rt af aq lv = some (nI (fb_ct (gL g) 40), af', aq', lv') ∧ gLiv g lv' ∧ ∀ t, t < 40 → (af' t < 100000000 ↔ gL g t = true) ∧ (af' t = 100000000 ↔ gL g t = false) := by
  obtain ⟨af', aq', d, e, hd⟩ := z_lives lk rt h v hv hl hr af aq
  have hf : ∀ t, t < 40 → (af' t < 100000000 ↔ gL g t = true) ∧ (af' t = 100000000 ↔ gL g t = false) := by
    intro t ht
    by_cases q : gL g t = true
    · obtain ⟨a, b, _, _⟩ := (hd t ht).1 q
      rw [a, q]
      exact ⟨iff_of_true (nI_lt_far (by omega)) rfl, iff_of_false (nI_ne_far (by omega)) (by decide)⟩
    · have a := (hd t ht).2 q
      rw [a, Bool.eq_false_iff.mpr q]
      exact ⟨iff_of_false Int32.lt_irrefl (by decide), iff_of_true rfl rfl⟩
  obtain ⟨lv', a, b⟩ := r_livings_13 (g := g) af' aq' (fun t ht => (hf t ht).2) 40 0 lv rfl (fun t ht => by omega)
  refine ⟨af', aq', lv', ?_, a, hf⟩
  unfold mX12_livings
  rw [e, obind, xu_r, xu_r]
  exact b
/-- the innermost loop: each live one as the link's new end -/
theorem r_odds_119 (h : gok W g) (hW : ∀ t, t < 40 → gL g t = true → W t = true) (hl : ∀ j, j < 160 → lk j = bno (g 6 j)) (hr : ∀ k, k < 8 → rt k = bno (g 7 k)) (t : Nat) (ht : t < 40) (b C : Nat) (hb : b < 2) (ch : Nat → Int32) (hC : ch b = nI C) (lv : Nat → Int32) (hlv : gLiv g lv) (a : Nat) (ha : a < 40) (hLa : gL g a = true) (r : Nat) (hr4 : r < 4) (K : Int32 → (Nat → Int32) → (Nat → Int32) → (Nat → Int32) → Option (Int32 × (Nat → Int32) × (Nat → Int32) × (Nat → Int32) × (Nat → Int32))) (P : Option (Int32 × (Nat → Int32) × (Nat → Int32) × (Nat → Int32) × (Nat → Int32)) → Prop) (x : Nat)
    (hK : ∀ af aq, P (K (nI (x + C * gRow g t (4 * a + r))) lk af aq)) :
    ∀ (m f j : Nat) (af aq lk2 : Nat → Int32), j + m = fb_ct (gL g) 40 → m < f → (∀ i, i ≠ 4 * a + r → lk2 i = lk i) →
      P (mX12_odds_119 (nI t) (nI b) ch rt lk lv r (nI (fb_ct (gL g) 40)) (nI (fb_ct (gL g) a)) K f (nI (x + C * fb_ct (fun y => decide (fb_ct (gL g) y < j) && (gL g y && gL (gset g 6 (4 * a + r) (y + 1)) t)) 40)) (nI j) lk2 af aq) := by
  intro m
  have hn40 : fb_ct (gL g) 40 ≤ 40 := fb_ct_le _ _
  have ela : lv (fb_ct (gL g) a) = nI a := hlv a ha hLa
  have hca : fb_ct (gL g) a < 2147483648 := by have := fb_ct_le (gL g) a; omega
  have eidx : (4 : Int32) * nI a + nI r = nI (4 * a + r) := by
    rw [show (4 : Int32) = nI 4 from rfl, pk_mul, nI_add]
  induction m with
  | zero =>
    intro f j af aq lk2 hj hf hlk2
    obtain ⟨f, rfl⟩ : ∃ q, f = q + 1 := ⟨f - 1, by omega⟩
    rw [mX12_odds_119, if_neg (nI_nlt (by omega) (by omega)), zc _ hca, ela, eidx, zc (4 * a + r) (by omega)]
    have e1 : upd lk2 (4 * a + r) (lk (4 * a + r)) = lk := by
      funext i
      by_cases e : i = 4 * a + r
      · subst e; exact pk_us
      · rw [pk_un e]; exact hlk2 i e
    have e2 : fb_ct (fun y => decide (fb_ct (gL g) y < j) && (gL g y && gL (gset g 6 (4 * a + r) (y + 1)) t)) 40 = gRow g t (4 * a + r) := by
      unfold gRow
      refine fb_ct_cong (fun y hy => ?_)
      cases q : gL g y with
      | false => rw [Bool.false_and, Bool.and_false]
      | true =>
        have c := fb_ct_mono (gL g) (show y + 1 ≤ 40 by omega)
        rw [fb_ct_succ, if_pos q] at c
        rw [decide_eq_true (by omega), Bool.true_and]
    rw [e1, e2]
    exact hK af aq
  | succ m ih =>
    intro f j af aq lk2 hj hf hlk2
    obtain ⟨f, rfl⟩ : ∃ q, f = q + 1 := ⟨f - 1, by omega⟩
    obtain ⟨y, hy, hLy, hcy, hly⟩ := gLiv_ex hlv (show j < fb_ct (gL g) 40 by omega)
    rw [mX12_odds_119, if_pos (nI_lt (by omega) (by omega)), zb j 40 (by omega) (by decide), zc j (by omega), if_pos rfl, zc _ hca, ela, eidx, zc (4 * a + r) (by omega), hly]
    have hg' : gok W (gset g 6 (4 * a + r) (y + 1)) := gok_6s h _ y hy (hW y hy hLy)
    have hl2 : ∀ i, i < 160 → upd lk2 (4 * a + r) (nI y) (160 * 0 + i) = bno (gset g 6 (4 * a + r) (y + 1) 6 i) := by
      intro i hi
      rw [show 160 * 0 + i = i by omega]
      by_cases e : i = 4 * a + r
      · subst e; rw [pk_us, gset_s, bnoS]
      · rw [pk_un e, gset_n g _ (fun q => e q.2), hlk2 i e]; exact hl i hi
    have hr2 : ∀ k, k < 8 → rt (8 * 0 + k) = bno (gset g 6 (4 * a + r) (y + 1) 7 k) := by
      intro k hk
      rw [show 8 * 0 + k = k by omega]
      exact z_up7 hr _ _ k hk
    obtain ⟨af1, aq1, d, e, hd⟩ := z_lives _ rt hg' 0 (by decide) hl2 hr2 af aq
    rw [show nI 0 = 0 from rfl] at e
    rw [e, obind, xu_r, xu_r, zc t (by omega), zb b 2 hb (by decide), zc b (by omega), hC]
    have hstep : fb_ct (fun z => decide (fb_ct (gL g) z < j + 1) && (gL g z && gL (gset g 6 (4 * a + r) (z + 1)) t)) 40 = fb_ct (fun z => decide (fb_ct (gL g) z < j) && (gL g z && gL (gset g 6 (4 * a + r) (z + 1)) t)) 40 + (if gL (gset g 6 (4 * a + r) (y + 1)) t = true then 1 else 0) := by
      have u := fb_ct_upd (fun z => decide (fb_ct (gL g) z < j) && (gL g z && gL (gset g 6 (4 * a + r) (z + 1)) t)) (gL (gset g 6 (4 * a + r) (y + 1)) t) (i := y) (n := 40) hy
      have e0 : (decide (fb_ct (gL g) y < j) && (gL g y && gL (gset g 6 (4 * a + r) (y + 1)) t)) = false := by rw [decide_eq_false (by omega), Bool.false_and]
      simp only [e0] at u
      rw [if_neg (by decide), Nat.add_zero] at u
      rw [← u]
      refine fb_ct_cong (fun z hz => ?_)
      by_cases w : z = y
      · subst w; rw [if_pos rfl, decide_eq_true (by omega), hLy]; rfl
      · rw [if_neg w]
        cases q : gL g z with
        | false => rw [Bool.false_and, Bool.and_false, Bool.and_false]
        | true =>
          have : fb_ct (gL g) z ≠ j := fun q2 => w (fb_ct_kth_one q hLy (by omega))
          congr 1
          rw [decide_eq_decide]
          omega
    have hlk3 : ∀ i, i ≠ 4 * a + r → upd lk2 (4 * a + r) (nI y) i = lk i := by
      intro i hi
      rw [pk_un hi]; exact hlk2 i hi
    have next := ih f (j + 1) af1 aq1 _ (by omega) (by omega) hlk3
    rw [hstep] at next
    by_cases q : gL (gset g 6 (4 * a + r) (y + 1)) t = true
    · obtain ⟨p1, p2, _, _⟩ := (hd t ht).1 q
      rw [p1, if_pos (nI_lt_far (by omega)), if_pos rfl, nI_add, nI_1]
      rw [if_pos q, Nat.mul_add, Nat.mul_one, ← Nat.add_assoc] at next
      exact next
    · have p1 := (hd t ht).2 q
      rw [p1, if_neg Int32.lt_irrefl, Int32.add_zero, nI_1]
      rw [if_neg q, Nat.add_zero] at next
      exact next
theorem r_odds_87 (h : gok W g) (hW : ∀ t, t < 40 → gL g t = true → W t = true) (hl : ∀ j, j < 160 → lk j = bno (g 6 j)) (hr : ∀ k, k < 8 → rt k = bno (g 7 k)) (t : Nat) (ht : t < 40) (b C : Nat) (hb : b < 2) (ch : Nat → Int32) (hC : ch b = nI C) (lv : Nat → Int32) (hlv : gLiv g lv) (a : Nat) (ha : a < 40) (hLa : gL g a = true) (K : Int32 → Int32 → Int32 → (Nat → Int32) → (Nat → Int32) → (Nat → Int32) → (Nat → Int32) → Option (Int32 × (Nat → Int32) × (Nat → Int32) × (Nat → Int32) × (Nat → Int32))) (P : Option (Int32 × (Nat → Int32) × (Nat → Int32) × (Nat → Int32) × (Nat → Int32)) → Prop) (x : Nat)
    (hK : ∀ af aq, P (K (nI (fb_ct (gL g) 40)) (nI (x + C * fb_sm (fun r => gRow g t (4 * a + r)) 4)) (nI (fb_ct (gL g) a + 1)) lk af aq lv)) :
    ∀ (k r : Nat) (af aq : Nat → Int32), r + k = 4 → P (mX12_odds_87 (nI t) (nI b) ch rt lv (nI (fb_ct (gL g) 40)) (nI (fb_ct (gL g) a)) K k r (nI (x + C * fb_sm (fun r => gRow g t (4 * a + r)) r)) lk af aq) := by
  intro k
  have hn40 : fb_ct (gL g) 40 ≤ 40 := fb_ct_le _ _
  have ela : lv (fb_ct (gL g) a) = nI a := hlv a ha hLa
  have hca : fb_ct (gL g) a < 40 := by
    have c := fb_ct_mono (gL g) (show a + 1 ≤ 40 by omega)
    rw [fb_ct_succ, if_pos hLa] at c
    omega
  induction k with
  | zero =>
    intro r af aq hr4
    rw [mX12_odds_87, nI_1, show r = 4 by omega]
    exact hK af aq
  | succ k ih =>
    intro r af aq hr4
    have eidx : (4 : Int32) * nI a + nI r = nI (4 * a + r) := by
      rw [show (4 : Int32) = nI 4 from rfl, pk_mul, nI_add]
    rw [mX12_odds_87, zb _ 40 hca (by decide), if_pos rfl, zc _ (by omega), ela, eidx, zb (4 * a + r) 3520 (by omega) (by decide), if_pos rfl]
    have key := r_odds_119 lk rt h hW hl hr t ht b C hb ch hC lv hlv a ha hLa r (by omega) (fun zx4_87 za_linkTo_87 za_farOf_87 za_queue_87 => mX12_odds_87 (nI t) (nI b) ch rt lv (nI (fb_ct (gL g) 40)) (nI (fb_ct (gL g) a)) K k (r + 1) zx4_87 za_linkTo_87 za_farOf_87 za_queue_87) P (x + C * fb_sm (fun r => gRow g t (4 * a + r)) r) (fun af' aq' => by
      have := ih (r + 1) af' aq' (by omega)
      rw [fb_sm_succ, Nat.mul_add, ← Nat.add_assoc] at this
      exact this) (fb_ct (gL g) 40) xfuel 0 af aq lk (by omega) (by unfold xfuel; omega) (fun _ _ => rfl)
    have e0 : fb_ct (fun y => decide (fb_ct (gL g) y < 0) && (gL g y && gL (gset g 6 (4 * a + r) (y + 1)) t)) 40 = 0 := by
      rw [fb_ct_zero]
      intro y _
      rw [decide_eq_false (by omega), Bool.false_and]
    rw [e0, Nat.mul_zero, Nat.add_zero] at key
    exact key
/-- the rows of the things below a -/
theorem gRows_4 (g : Nat → Nat → Nat) (t a : Nat) : gRows g t (4 * (a + 1)) = gRows g t (4 * a) + (if gL g a = true then fb_sm (fun r => gRow g t (4 * a + r)) 4 else 0) := by
  unfold gRows
  rw [show 4 * (a + 1) = 4 * a + 4 by omega, fb_sm_split]
  congr 1
  by_cases q : gL g a = true
  · rw [if_pos q]
    refine fb_sm_cong (fun r hr => ?_)
    rw [show (4 * a + r) / 4 = a by omega, if_pos q]
  · rw [if_neg q, fb_sm_cong (g := fun _ => 0) (fun r hr => by rw [show (4 * a + r) / 4 = a by omega, if_neg q]), fb_sm_const]
theorem gRows_gap (g : Nat → Nat → Nat) (t a : Nat) : ∀ n, (∀ y, a ≤ y → y < a + n → gL g y = false) → gRows g t (4 * (a + n)) = gRows g t (4 * a) := by
  intro n
  induction n with
  | zero => intro _; rfl
  | succ n ih =>
    intro hq
    rw [show a + (n + 1) = (a + n) + 1 by omega, gRows_4, hq (a + n) (by omega) (by omega), if_neg (by decide), Nat.add_zero]
    exact ih (fun y h1 h2 => hq y h1 (by omega))
theorem r_odds_78 (h : gok W g) (hW : ∀ t, t < 40 → gL g t = true → W t = true) (hl : ∀ j, j < 160 → lk j = bno (g 6 j)) (hr : ∀ k, k < 8 → rt k = bno (g 7 k)) (t : Nat) (ht : t < 40) (b C : Nat) (hb : b < 2) (ch : Nat → Int32) (hC : ch b = nI C) (lv : Nat → Int32) (hlv : gLiv g lv) (x : Nat) :
    ∀ (m f j s : Nat) (af aq : Nat → Int32), j + m = fb_ct (gL g) 40 → m < f → s ≤ 40 → fb_ct (gL g) s = j → ∃ af' aq', mX12_odds_78 (nI t) (nI b) ch rt f (nI (fb_ct (gL g) 40)) (nI (x + C * gRows g t (4 * s))) (nI j) lk af aq lv = some (nI (x + C * gRows g t 160), lk, af', aq', lv) := by
  intro m
  have hn40 : fb_ct (gL g) 40 ≤ 40 := fb_ct_le _ _
  induction m with
  | zero =>
    intro f j s af aq hj hf hs hcs
    obtain ⟨f, rfl⟩ : ∃ q, f = q + 1 := ⟨f - 1, by omega⟩
    refine ⟨af, aq, ?_⟩
    rw [mX12_odds_78, if_neg (nI_nlt (by omega) (by omega))]
    have gap := gRows_gap g t s (40 - s) (fun y h1 h2 => by
      have a := fb_ct_mono (gL g) h1
      have b := fb_ct_mono (gL g) (show y + 1 ≤ 40 by omega)
      rw [fb_ct_succ] at b
      cases q : gL g y with
      | false => rfl
      | true => rw [if_pos q] at b; omega)
    rw [show 4 * (s + (40 - s)) = 160 by omega] at gap
    rw [gap]
  | succ m ih =>
    intro f j s af aq hj hf hs hcs
    obtain ⟨f, rfl⟩ : ∃ q, f = q + 1 := ⟨f - 1, by omega⟩
    obtain ⟨a, ha, hLa, hca, _⟩ := gLiv_ex hlv (show j < fb_ct (gL g) 40 by omega)
    have hsa : s ≤ a := by
      rcases Nat.lt_or_ge a s with q | q
      · have c := fb_ct_mono (gL g) (show a + 1 ≤ s by omega)
        rw [fb_ct_succ, if_pos hLa] at c
        omega
      · exact q
    have gap := gRows_gap g t s (a - s) (fun y h1 h2 => by
      have a1 := fb_ct_mono (gL g) h1
      have b1 := fb_ct_mono (gL g) (show y + 1 ≤ a by omega)
      rw [fb_ct_succ] at b1
      cases q : gL g y with
      | false => rfl
      | true => rw [if_pos q] at b1; omega)
    rw [show s + (a - s) = a by omega] at gap
    rw [mX12_odds_78, if_pos (nI_lt (by omega) (by omega)), ← hca, ← gap]
    refine r_odds_87 lk rt h hW hl hr t ht b C hb ch hC lv hlv a ha hLa (fun zx2_78 zx4_78 zx5_78 za_linkTo_78 za_farOf_78 za_queue_78 za_living_78 => mX12_odds_78 (nI t) (nI b) ch rt f zx2_78 zx4_78 zx5_78 za_linkTo_78 za_farOf_78 za_queue_78 za_living_78) (fun r => ∃ af' aq', r = some (nI (x + C * gRows g t 160), lk, af', aq', lv)) (x + C * gRows g t (4 * a)) (fun af' aq' => ?_) 4 0 af aq rfl
    have e := gRows_4 g t a
    rw [if_pos hLa] at e
    rw [Nat.add_assoc, ← Nat.mul_add, ← e, hca]
    exact ih f (j + 1) (a + 1) af' aq' (by omega) (by omega) (by omega) (by rw [fb_ct_succ, if_pos hLa]; omega)
end OR
