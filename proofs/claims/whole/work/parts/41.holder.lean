theorem xlet_eq {α β : Type} (o : α) (f : α → β) : xlet o f = f o := rfl
def hRel (f : Nat → Int32) (best most : Int32) : Prop := f 2 = most ∧ ((best = -1 ∧ most = -1) ∨ (¬ most = -1 ∧ ((∃ r, r < 8 ∧ best = nI r ∧ f 0 = -1 ∧ f 1 = nI r) ∨ (∃ l, l < 160 ∧ best = nI (8 + l) ∧ f 0 = nI (l / 4) ∧ f 1 = nI l - nI (l / 4) * 4))))
theorem upd_back (a : Nat → Int32) (i : Nat) (x : Int32) : upd (upd a i x) i (a i) = a := by
  rw [fa_upd_twice, fa_upd_same rfl]
theorem z_d4 (i : Nat) (hi : i < 160) : nI i / 4 = nI (i / 4) := pk_div (d := 4) (by omega) (by decide) (by decide)
theorem obind {α β : Type} (a : α) (f : α → Option β) : (some a).bind f = f a := rfl
theorem livesNow_eq (lk rt af aq : Nat → Int32) : mX12_livesNow lk rt af aq = mX12_lives 0 (-1) (-1) (-1) lk rt af aq := by
  unfold mX12_livesNow
  cases mX12_lives 0 (-1) (-1) (-1) lk rt af aq with
  | none => rfl
  | some p => rfl
theorem z_holder_in (lkr rtr : Nat → Int32) (w : Nat) (hw : w < 3) (af aq ir : Nat → Int32) : mX12_holder (nI w) lkr rtr af aq ir = (mX12_livesNow lkr rtr af aq).bind (xu fun a => xu fun b => fun c => mX12_holder_18 (nI w) lkr rtr 40 0 a b c ir) := by
  have w0 : ¬ nI w < 0 := zn0 (by omega)
  have w2 : ¬ (2 : Int32) < nI w := nI_nlt (a := 2) (by omega) (by decide)
  unfold mX12_holder
  rw [z_is, decide_eq_false w0, decide_eq_false w2, if_pos (show (!false && !false) = true from rfl)]
section HO
variable {W : Nat → Bool} {g : Nat → Nat → Nat} {th : Int64} (lk rt lkr rtr : Nat → Int32)
theorem c_weigh (h : gok W g) (hth : zh th W) (hl : ∀ j, j < 160 → lk j = bno (g 6 j)) (hr : ∀ k, k < 8 → rt k = bno (g 7 k)) (A : Nat) (live : Int64) (hA : mJ13_bitCount_95d88 live = nI A) (x y : Int32) (f : Nat → Int32) :
    mX0_weighHolder live x y 3 th lk rt f = if f 2 < nI A - nI (fb_ct (gL g) 40) then upd (upd (upd f 0 x) 1 y) 2 (nI A - nI (fb_ct (gL g) 40)) else f := by
  unfold mX0_weighHolder
  rw [hA, zh_cnt (z_live h hth lk rt hl hr), show (2 : Int32) = nI 2 from rfl, show (0 : Int32) = nI 0 from rfl, show (1 : Int32) = nI 1 from rfl, s_at 3 2 (by decide) (by decide)]
  simp only [xlet]
  rw [s_put 3 0 (by decide) (by decide), s_put 3 1 (by decide) (by decide), s_put 3 2 (by decide) (by decide)]
theorem hRel_step {f : Nat → Int32} {best most : Int32} (hR : hRel f best most) {A n : Nat} (hn : n ≤ A) (hA : A < 1000) {x y b : Int32} (hb : (∃ r, r < 8 ∧ b = nI r ∧ x = -1 ∧ y = nI r) ∨ (∃ l, l < 160 ∧ b = nI (8 + l) ∧ x = nI (l / 4) ∧ y = nI l - nI (l / 4) * 4)) :
    hRel (if f 2 < nI A - nI n then upd (upd (upd f 0 x) 1 y) 2 (nI A - nI n) else f) (if most < nI A - nI n then b else best) (if most < nI A - nI n then nI A - nI n else most) := by
  have e := hR.1
  rw [e]
  by_cases h : most < nI A - nI n
  · rw [if_pos h, if_pos h, if_pos h]
    refine ⟨pk_us, Or.inr ⟨?_, ?_⟩⟩
    · rw [pk_sub hn]; exact nI_m1 (by omega)
    · have e0 : upd (upd (upd f 0 x) 1 y) 2 (nI A - nI n) 0 = x := by rw [pk_un (by decide), pk_un (by decide), pk_us]
      have e1 : upd (upd (upd f 0 x) 1 y) 2 (nI A - nI n) 1 = y := by rw [pk_un (by decide), pk_us]
      rw [e0, e1]
      exact hb
  · rw [if_neg h, if_neg h, if_neg h]
    exact hR
theorem c_holder_end {f : Nat → Int32} {best most : Int32} (hR : hRel f best most) (w : Nat) (hw : w < 3) (af aq ir : Nat → Int32) (A : Int32) :
    mX12_holder_121 (nI w) lkr rtr 0 160 A best most af aq ir = some (if f 2 = -1 then -1 else f w, af, aq, ir) := by
  rw [mX12_holder_121]
  obtain ⟨e, hR⟩ := hR
  rcases hR with ⟨h1, h2⟩ | ⟨h1, h2⟩
  · rw [if_pos h1, e, if_pos h2]
  · rw [e, if_neg h1]
    rcases h2 with ⟨r, hr, a, b, c⟩ | ⟨l, hl, a, b, c⟩
    · rw [if_neg (by rw [a]; exact nI_m1 (by omega))]
      have : best < 8 := by rw [a]; exact nI_lt (b := 8) hr (by decide)
      match w, hw with
      | 0, _ => rw [if_neg (by decide), if_pos this, if_pos nI_0, b]
      | 1, _ => rw [if_neg (by decide), if_pos this, if_neg (by decide), c, a]
      | 2, _ => rw [if_pos (show nI 2 = 2 from rfl), ← e]
    · rw [if_neg (by rw [a]; exact nI_m1 (by omega))]
      have : ¬ best < 8 := by rw [a]; exact nI_nlt (a := 8 + l) (b := 8) (by omega) (by omega)
      have e8 : best - 8 = nI l := by
        rw [a, show (8 : Int32) = nI 8 from rfl, pk_sub (by omega)]
        congr 1
        omega
      match w, hw with
      | 0, _ => rw [if_neg (by decide), if_neg this, if_pos nI_0, b, e8, z_d4 l hl]
      | 1, _ => rw [if_neg (by decide), if_neg this, if_neg (by decide), c, e8, z_d4 l hl]
      | 2, _ => rw [if_pos (show nI 2 = 2 from rfl), ← e]
theorem c_holder_71 (h : gok W g) (hth : zh th W) (hl : ∀ j, j < 160 → lk j = bno (g 6 j)) (hr : ∀ k, k < 8 → rt k = bno (g 7 k)) (hlr : ∀ j, j < 160 → lkr j = bno (g 6 j)) (hrr : ∀ k, k < 8 → rtr k = bno (g 7 k)) (w : Nat) (hw : w < 3) (ir : Nat → Int32) (hir : ∀ t, t < 40 → (ir t = 1 ↔ gL g t = false)) :
    ∀ (k i : Nat) (f af aq : Nat → Int32) (best most : Int32), i + k = 160 → hRel f best most → ∃ f' af' aq', mX0_findHolder_71 3 th lk rt k i lk rt f = (decide (¬ f' 2 = -1), lk, rt, f') ∧ mX12_holder_121 (nI w) lkr rtr k i (nI (fb_ct (gL g) 40)) best most af aq ir = some (if f' 2 = -1 then -1 else f' w, af', aq', ir) := by
  intro k
  induction k with
  | zero =>
    intro i f af aq best most hi hR
    refine ⟨f, af, aq, ?_, ?_⟩
    · rw [mX0_findHolder_71, show (2 : Int32) = nI 2 from rfl, s_at 3 2 (by decide) (by decide)]
      by_cases q : f 2 = -1
      · rw [if_pos q]; simp [q]
      · rw [if_neg q]; simp [q]
    · rw [show i = 160 by omega]; exact c_holder_end lkr rtr hR w hw af aq ir _
  | succ k ih =>
    intro i f af aq best most hi hR
    have hi2 : i < 160 := by omega
    have hd : i / 4 < 40 := by omega
    have hA : fb_ct (gL g) 40 ≤ 40 := fb_ct_le _ _
    rw [mX0_findHolder_71, mX12_holder_121, z_d4 i hi2, zh_in (z_live h hth lk rt hl hr) hd, zc i (by omega), zb (i / 4) 40 hd (by decide), zc (i / 4) (by omega), hl i hi2, hlr i hi2]
    simp only [if_true]
    by_cases h1 : bno (g 6 i) = -1
    · rw [if_pos h1, if_pos h1]
      obtain ⟨f', af', aq', a, b⟩ := ih (i + 1) f af aq best most (by omega) hR
      refine ⟨f', af', aq', ?_, b⟩
      split <;> exact a
    · rw [if_neg h1, if_neg h1]
      by_cases h2 : gL g (i / 4) = true
      · rw [if_pos h2, if_neg (fun q => by have := (hir _ hd).mp q; rw [h2] at this; exact absurd this (by decide))]
        obtain ⟨af1, aq1, d, e, _⟩ := z_lives_l lkr rtr h 0 (by decide) (fun j hj => by rw [show 160 * 0 + j = j by omega]; exact hlr j hj) (fun j hj => by rw [show 8 * 0 + j = j by omega]; exact hrr j hj) i hi2 af aq
        rw [show nI 0 = 0 from rfl] at e
        rw [e]
        simp only [Option.bind_some, xu, xlet]
        have hupd : ∀ j, j < 160 → upd lk i (-1) j = bno (gset g 6 i 0 6 j) := by
          intro j hj
          by_cases z : j = i
          · subst z; rw [pk_us, gset_s]; rfl
          · rw [pk_un z, gset_n g 0 (fun q => z q.2)]; exact hl j hj
        have hrg : ∀ k, k < 8 → rt k = bno (gset g 6 i 0 7 k) := by
          intro k hk
          rw [gset_n g 0 (fun q => absurd q.1 (by decide))]; exact hr k hk
        rw [c_weigh (upd lk i (-1)) rt (gok_6 h i) hth hupd hrg (fb_ct (gL g) 40) _ (zh_cnt (z_live h hth lk rt hl hr))]
        have hst := hRel_step hR (n := fb_ct (gL (gset g 6 i 0)) 40) (A := fb_ct (gL g) 40) (gL_6 g i) (by omega) (x := nI (i / 4)) (y := nI i - nI (i / 4) * 4) (b := nI (8 + i)) (Or.inr ⟨i, hi2, rfl, rfl, rfl⟩)
        rw [← hl i hi2, upd_back]
        have e8 : (8 : Int32) + nI i = nI (8 + i) := by rw [show (8 : Int32) = nI 8 from rfl, nI_add]
        rw [e8]
        have eg : blv (gRt (gset g 6 i 0)) (gLk (gset g 6 i 0)) 40 = gL (gset g 6 i 0) := rfl
        rw [eg]
        obtain ⟨f', af', aq', a, b⟩ := ih (i + 1) _ af1 aq1 _ _ (by omega) hst
        refine ⟨f', af', aq', a, ?_⟩
        rw [← b]
        by_cases q : most < nI (fb_ct (gL g) 40) - nI (fb_ct (gL (gset g 6 i 0)) 40)
        · rw [if_pos q, if_pos q, if_pos q]
        · rw [if_neg q, if_neg q, if_neg q]
      · rw [if_neg h2, if_pos ((hir _ hd).mpr (Bool.eq_false_iff.mpr h2))]
        exact ih (i + 1) f af aq best most (by omega) hR
theorem c_holder_14 (h : gok W g) (hth : zh th W) (hl : ∀ j, j < 160 → lk j = bno (g 6 j)) (hr : ∀ k, k < 8 → rt k = bno (g 7 k)) (hlr : ∀ j, j < 160 → lkr j = bno (g 6 j)) (hrr : ∀ k, k < 8 → rtr k = bno (g 7 k)) (w : Nat) (hw : w < 3) (ir : Nat → Int32) (hir : ∀ t, t < 40 → (ir t = 1 ↔ gL g t = false)) :
    ∀ (k i : Nat) (f af aq : Nat → Int32) (best most : Int32), i + k = 8 → hRel f best most → ∃ f' af' aq', mX0_findHolder_14 3 th lk rt k i rt f = (decide (¬ f' 2 = -1), lk, rt, f') ∧ mX12_holder_61 (nI w) lkr rtr k i (nI (fb_ct (gL g) 40)) best most af aq ir = some (if f' 2 = -1 then -1 else f' w, af', aq', ir) := by
  intro k
  induction k with
  | zero =>
    intro i f af aq best most hi hR
    rw [mX0_findHolder_14, mX12_holder_61]
    exact c_holder_71 lk rt lkr rtr h hth hl hr hlr hrr w hw ir hir 160 0 f af aq best most rfl hR
  | succ k ih =>
    intro i f af aq best most hi hR
    have hi2 : i < 8 := by omega
    have hA : fb_ct (gL g) 40 ≤ 40 := fb_ct_le _ _
    rw [mX0_findHolder_14, mX12_holder_61, zc i (by omega), hr i hi2, hrr i hi2]
    by_cases h1 : bno (g 7 i) = -1
    · rw [if_pos h1, if_pos h1]
      exact ih (i + 1) f af aq best most (by omega) hR
    · rw [if_neg h1, if_neg h1]
      obtain ⟨af1, aq1, d, e, _⟩ := z_lives_r lkr rtr h 0 (by decide) (fun j hj => by rw [show 160 * 0 + j = j by omega]; exact hlr j hj) (fun j hj => by rw [show 8 * 0 + j = j by omega]; exact hrr j hj) i hi2 af aq
      rw [show nI 0 = 0 from rfl] at e
      rw [e]
      simp only [Option.bind_some, xu, xlet]
      have hupd : ∀ j, j < 8 → upd rt i (-1) j = bno (gset g 7 i 0 7 j) := by
        intro j hj
        by_cases z : j = i
        · subst z; rw [pk_us, gset_s]; rfl
        · rw [pk_un z, gset_n g 0 (fun q => z q.2)]; exact hr j hj
      have hlg : ∀ j, j < 160 → lk j = bno (gset g 7 i 0 6 j) := by
        intro k hk
        rw [gset_n g 0 (fun q => absurd q.1 (by decide))]; exact hl k hk
      rw [c_weigh lk (upd rt i (-1)) (gok_7 h i) hth hlg hupd (fb_ct (gL g) 40) _ (zh_cnt (z_live h hth lk rt hl hr))]
      have hst := hRel_step hR (n := fb_ct (gL (gset g 7 i 0)) 40) (A := fb_ct (gL g) 40) (gL_7 g i) (by omega) (x := -1) (y := nI i) (b := nI i) (Or.inl ⟨i, hi2, rfl, rfl, rfl⟩)
      rw [← hr i hi2, upd_back]
      have eg : blv (gRt (gset g 7 i 0)) (gLk (gset g 7 i 0)) 40 = gL (gset g 7 i 0) := rfl
      rw [eg]
      obtain ⟨f', af', aq', a, b⟩ := ih (i + 1) _ af1 aq1 _ _ (by omega) hst
      refine ⟨f', af', aq', a, ?_⟩
      rw [← b]
      by_cases q : most < nI (fb_ct (gL g) 40) - nI (fb_ct (gL (gset g 7 i 0)) 40)
      · rw [if_pos q, if_pos q, if_pos q]
      · rw [if_neg q, if_neg q, if_neg q]
theorem c_holder_18 (w : Nat) (A : Int32) (af aq : Nat → Int32) : ∀ (k i : Nat) (ir : Nat → Int32), i + k = 40 → (∀ t, t < i → ir t = if af t = 100000000 then 1 else 0) → ∃ ir', (∀ t, t < 40 → ir' t = if af t = 100000000 then 1 else 0) ∧ mX12_holder_18 (nI w) lkr rtr k i A af aq ir = mX12_holder_61 (nI w) lkr rtr 8 0 A (-1) (-1) af aq ir' := by
  intro k
  induction k with
  | zero =>
    intro i ir hi h
    exact ⟨ir, fun t ht => h t (by omega), rfl⟩
  | succ k ih =>
    intro i ir hi h
    rw [mX12_holder_18, zc i (by omega)]
    by_cases q : af i = 100000000
    · rw [if_pos q]
      refine ih (i + 1) _ (by omega) (fun t ht => ?_)
      by_cases e : t = i
      · subst e; rw [pk_us, if_pos q]
      · rw [pk_un e]; exact h t (by omega)
    · rw [if_neg q]
      refine ih (i + 1) _ (by omega) (fun t ht => ?_)
      by_cases e : t = i
      · subst e; rw [pk_us, if_neg q]
      · rw [pk_un e]; exact h t (by omega)
theorem c_holder (h : gok W g) (hth : zh th W) (hl : ∀ j, j < 160 → lk j = bno (g 6 j)) (hr : ∀ k, k < 8 → rt k = bno (g 7 k)) (hlr : ∀ j, j < 160 → lkr j = bno (g 6 j)) (hrr : ∀ k, k < 8 → rtr k = bno (g 7 k)) (w : Nat) (hw : w < 3) (f af aq ir : Nat → Int32) :
    ∃ f' af' aq' ir', mX0_findHolder 3 th lk rt f = (decide (¬ f' 2 = -1), lk, rt, f') ∧ mX12_holder (nI w) lkr rtr af aq ir = some (if f' 2 = -1 then -1 else f' w, af', aq', ir') := by
  obtain ⟨af1, aq1, d, e, hd⟩ := z_lives lkr rtr h 0 (by decide) (fun j hj => by rw [show 160 * 0 + j = j by omega]; exact hlr j hj) (fun j hj => by rw [show 8 * 0 + j = j by omega]; exact hrr j hj) af aq
  rw [show nI 0 = 0 from rfl] at e
  obtain ⟨ir', hir, e2⟩ := c_holder_18 lkr rtr w (nI (fb_ct (gL g) 40)) af1 aq1 40 0 ir rfl (fun t ht => by omega)
  have hir2 : ∀ t, t < 40 → (ir' t = 1 ↔ gL g t = false) := by
    intro t ht
    rw [hir t ht]
    by_cases q : gL g t = true
    · have := (hd t ht).1 q
      rw [if_neg (by rw [this.1]; exact nI_ne_far (by omega)), q]
      constructor <;> intro z <;> exact absurd z (by decide)
    · rw [if_pos ((hd t ht).2 q), Bool.eq_false_iff.mpr q]
      exact ⟨fun _ => rfl, fun _ => rfl⟩
  have hR : hRel (upd f 2 (-1)) (-1) (-1) := ⟨pk_us, Or.inl ⟨rfl, rfl⟩⟩
  obtain ⟨f', af', aq', a, b⟩ := c_holder_14 lk rt lkr rtr h hth hl hr hlr hrr w hw ir' hir2 8 0 _ af1 aq1 _ _ rfl hR
  refine ⟨f', af', aq', ir', ?_, ?_⟩
  · unfold mX0_findHolder
    rw [show (2 : Int32) = nI 2 from rfl, s_put 3 2 (by decide) (by decide), xlet_eq]
    exact a
  · rw [z_holder_in lkr rtr w hw, livesNow_eq, e, obind, xu_r, xu_r]
    have eg : blv (gRt g) (gLk g) 40 = gL g := rfl
    rw [eg, e2]
    exact b
end HO
