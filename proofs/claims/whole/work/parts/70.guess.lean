theorem ct_below (q : Nat → Bool) (f : Nat → Nat) (n : Nat) : fb_ct (fun u => q u && decide (f u < n + 1)) 40 = fb_ct (fun u => q u && decide (f u < n)) 40 + fb_ct (fun u => q u && decide (f u = n)) 40 := by
  rw [← fb_ct_or]
  · refine fb_ct_cong (fun u _ => ?_)
    cases q u
    · rfl
    · show decide (f u < n + 1) = (decide (f u < n) || decide (f u = n))
      rw [← Bool.decide_or, decide_eq_decide]
      omega
  · rintro k _ ⟨a, c⟩
    have a := of_decide_eq_true ((Bool.and_eq_true _ _).mp a).2
    have c := of_decide_eq_true ((Bool.and_eq_true _ _).mp c).2
    omega
theorem ct_ge {q : Nat → Bool} {f : Nat → Nat} : ∀ n, (∀ c, c < n → ∃ u, u < 40 ∧ q u = true ∧ f u = c) → n ≤ fb_ct (fun u => q u && decide (f u < n)) 40 := by
  intro n
  induction n with
  | zero => intro _; omega
  | succ n ih =>
    intro h
    have a := ih (fun c hc => h c (by omega))
    have c : 0 < fb_ct (fun u => q u && decide (f u = n)) 40 := by
      obtain ⟨u, x, y, z⟩ := h n (by omega)
      exact fb_ct_pos.mpr ⟨u, x, (Bool.and_eq_true _ _).mpr ⟨y, decide_eq_true z⟩⟩
    rw [ct_below]
    omega
theorem gCa_ct {g : GH} (W : gW g) (w : Nat) : gCa g w ≤ fb_ct (fun u => gTh g u && decide (g 1 u = w)) 40 := by
  refine Nat.le_trans (ct_ge (q := fun u => gTh g u && decide (g 1 u = w)) (f := g 2) (gCa g w) (fun c hc => ?_)) (fb_ct_sub (fun k _ e => ((Bool.and_eq_true _ _).mp e).1))
  obtain ⟨t, ht, p, e⟩ := bmx_at (p := fun t => decide (0 < g 0 t ∧ g 1 t = w)) (c := g 2) (n := 40) (show 0 < gCa g w by omega)
  have p := of_decide_eq_true p
  have e : g 2 t + 1 = gCa g w := e
  have go : ∀ u, 0 < g 0 u ∧ g 1 u = w → (gTh g u && decide (g 1 u = w)) = true := fun u q => (Bool.and_eq_true _ _).mpr ⟨decide_eq_true q.1, decide_eq_true q.2⟩
  by_cases z : c = g 2 t
  · exact ⟨t, ht, go t p, z.symm⟩
  · obtain ⟨u, a, b, d, k⟩ := W.2.2.1 t ht p.1 c (by omega)
    exact ⟨u, a, go u ⟨b, d.trans p.2⟩, k⟩
theorem gCars_40 {g : GH} (W : gW g) : gCars g ≤ 40 := by
  have : ∀ T, fb_sm (gCa g) T ≤ fb_ct (fun u => gTh g u && decide (g 1 u < T)) 40 := by
    intro T
    induction T with
    | zero => exact Nat.zero_le _
    | succ T ih =>
      rw [fb_sm_succ, ct_below]
      have := gCa_ct W T
      omega
  exact Nat.le_trans (this (gTr g)) (fb_ct_le _ 40)
/-- with another SIZE -/
def gZ' (g : GH) (t z : Nat) : GH := gset g 0 t z
theorem gZ'_0 {g : GH} {t z : Nat} (hg : 0 < g 0 t) (hz : 0 < z) (u : Nat) : 0 < gZ' g t z 0 u ↔ 0 < g 0 u := by
  unfold gZ'
  by_cases e : u = t
  · subst e; rw [gset_s]; exact ⟨fun _ => hg, fun _ => hz⟩
  · rw [gset_n _ _ (fun q => e q.2)]
theorem gZ'_o {g : GH} {t z a : Nat} (ha : a ≠ 0) (u : Nat) : gZ' g t z a u = g a u := gset_n _ _ (fun q => ha q.1)
theorem gW_z {g : GH} (W : gW g) {t z : Nat} (hg : 0 < g 0 t) (hz : 0 < z) (hz2 : z ≤ 99) : gW (gZ' g t z) := by
  obtain ⟨w1, w2, w3, w4, w5, w6, w7⟩ := W
  have eT : ∀ u, gTh (gZ' g t z) u = gTh g u := fun u => by
    show decide _ = decide _
    rw [decide_eq_decide]; exact gZ'_0 hg hz u
  have o : ∀ a, a ≠ 0 → ∀ u, gZ' g t z a u = g a u := fun a ha u => gZ'_o ha u
  refine ⟨fun u hu => ?_, fun u hu p => ?_, fun u hu p => ?_, fun u hu p => ?_, fun u v hu hv p q => ?_, ⟨fun j hj => ?_, fun k hk => ?_⟩, fun u hu e k hk => ?_⟩
  · rw [o 4 (by decide), o 5 (by decide), o 9 (by decide)]
    have := w1 u hu
    refine ⟨?_, this.2.1, this.2.2.1, fun e => this.2.2.2.1 ?_, this.2.2.2.2⟩
    · unfold gZ'
      by_cases e : u = t
      · subst e; rw [gset_s]; exact hz2
      · rw [gset_n _ _ (fun q => e q.2)]; exact this.1
    · have : ¬ 0 < gZ' g t z 0 u := by omega
      rw [gZ'_0 hg hz] at this
      omega
  · rw [gZ'_0 hg hz] at p
    simp only [o 1 (by decide), gZ'_0 hg hz]; exact w2 u hu p
  · rw [gZ'_0 hg hz] at p
    simp only [o 1 (by decide), o 2 (by decide), gZ'_0 hg hz]; exact w3 u hu p
  · rw [gZ'_0 hg hz] at p
    simp only [o 1 (by decide), o 2 (by decide), o 3 (by decide), gZ'_0 hg hz]; exact w4 u hu p
  · rw [gZ'_0 hg hz] at p q
    rw [o 1 (by decide), o 1 (by decide), o 2 (by decide), o 2 (by decide), o 3 (by decide), o 3 (by decide)]; exact w5 u v hu hv p q
  · rw [o 6 (by decide)]
    exact ⟨(w6.1 j hj).1, fun x e => by rw [eT]; exact (w6.1 j hj).2 x e⟩
  · rw [o 7 (by decide)]
    exact ⟨(w6.2 k hk).1, fun x e => by rw [eT]; exact (w6.2 k hk).2 x e⟩
  · rw [o 6 (by decide)]
    have : ¬ 0 < gZ' g t z 0 u := by omega
    rw [gZ'_0 hg hz] at this
    exact w7 u hu (by omega) k hk
/-- how far one may guess -/
def gR20 (g : GH) : Nat := if 999 - g 8 0 < 20 then 999 - g 8 0 else 20
theorem r_ahead20 {g : GH} {so : Nat → Int32} (h3 : so 0 = nI (g 8 0)) (h8 : g 8 0 ≤ 999) {y a : Nat} (hy : y ≤ 100) (ha : a ≤ 1) : mX12_isAhead (nI y) (nI a) 20 true so = decide (a ≤ y ∧ y ≤ gR20 g) := by
  unfold mX12_isAhead
  rw [if_pos rfl, z_is]
  have z0 : (so (0 : Int32).toNatClampNeg) = nI (g 8 0) := h3
  rw [z0, show (999 : Int32) - nI y = nI (999 - y) from pk_sub (a := 999) (by omega)]
  have l1 : (nI y < nI a) ↔ y < a := nI_ltI (by omega) (by omega)
  have l2 : ((20 : Int32) < nI y) ↔ 20 < y := nI_ltI (a := 20) (by omega) (by omega)
  have l3 : (nI (999 - y) < nI (g 8 0)) ↔ 999 - y < g 8 0 := nI_ltI (by omega) (by omega)
  have hR : gR20 g = if 999 - g 8 0 < 20 then 999 - g 8 0 else 20 := rfl
  by_cases q : a ≤ y ∧ y ≤ gR20 g
  · have b : y ≤ 20 ∧ y ≤ 999 - g 8 0 := by
      have := q.2
      rw [hR] at this
      split at this <;> omega
    rw [decide_eq_false (fun w => by have := l1.mp w; omega), decide_eq_false (fun w => by have := l2.mp w; omega), if_pos (show (!false && !false) = true from rfl), if_neg (fun w => by have := l3.mp w; omega), decide_eq_true q]
  · rw [decide_eq_false q]
    by_cases w1 : y < a
    · rw [decide_eq_true (l1.mpr w1)]; rfl
    · rw [decide_eq_false (fun w => w1 (l1.mp w))]
      by_cases w2 : 20 < y
      · rw [decide_eq_true (l2.mpr w2)]; rfl
      · rw [decide_eq_false (fun w => w2 (l2.mp w)), if_pos (show (!false && !false) = true from rfl), if_pos]
        refine l3.mpr ?_
        have : ¬ y ≤ gR20 g := fun w => q ⟨by omega, w⟩
        rw [hR] at this
        split at this <;> omega
theorem gR20_le (g : GH) : gR20 g ≤ 20 ∧ (g 8 0 ≤ 999 → g 8 0 + gR20 g ≤ 999) := by
  unfold gR20
  split <;> omega
/-- what one would SEE with a SIZE -/
def gQ (P : GP) (g : GH) (t z n k : Nat) : Nat := if k = 0 then gTr (gA P (gZ' g t z) n) else if k = 1 then gCars (gA P (gZ' g t z) n) else gThs (gA P (gZ' g t z) n)
theorem gQ_40 (P : GP) {g : GH} (W : gW g) {t z : Nat} (hg : 0 < g 0 t) (hz : 0 < z) (hz2 : z ≤ 99) (n k : Nat) : gQ P g t z n k ≤ 40 := by
  have Wn := (gA_W P (gW_z W hg hz hz2) n).1
  unfold gQ
  split
  · exact gTr_40 Wn
  · split
    · exact gCars_40 Wn
    · exact fb_ct_le _ 40
/-- rows met -/
def gMet (M : Nat) (R : Nat → Nat) : Prop := M ≤ 16 ∧ ∀ i, i < M → R (3 * i) ≤ 20 ∧ R (3 * i + 1) ≤ 2 ∧ R (3 * i + 2) ≤ 40
/-- one row fits -/
def gF1' (P : GP) (g : GH) (t : Nat) (R : Nat → Nat) (z i : Nat) : Bool := decide (R (3 * i) ≤ gR20 g) && decide (gQ P g t z (R (3 * i)) (R (3 * i + 1)) = R (3 * i + 2))
def gFits (P : GP) (g : GH) (t M : Nat) (R : Nat → Nat) (z : Nat) : Bool := decide (fb_ct (gF1' P g t R z) M = M)
theorem rS_z {g : GH} {K : GK} {so sz tr ca pl ag mk lk rt km kr : Nat → Int32} (S : rS 1 g K so sz tr ca pl ag mk lk rt km kr) {t z : Nat} (ht : t < 40) (hg : 0 < g 0 t) (hz : 0 < z) : rS 1 (gZ' g t z) K so (upd sz (40 + t) (nI z)) tr ca pl ag mk lk rt km kr := by
  obtain ⟨h1, h2, h3⟩ := S
  refine ⟨fun st sT hst => ?_, h2, h3⟩
  have M := h1 st sT hst
  refine ⟨fun u hu => ?_, fun u hu p => ?_, fun u hu e => M.2.2.1 u hu e, fun j hj => M.2.2.2.1 j hj, fun k hk => M.2.2.2.2 k hk⟩
  · by_cases e : u = t
    · subst e
      rw [pk_us]
      exact ⟨by unfold gZ'; rw [gset_s], (M.1 u hu).2⟩
    · rw [pk_un (by omega)]
      exact ⟨by unfold gZ'; rw [gset_n _ _ (fun q => e q.2)]; exact (M.1 u hu).1, (M.1 u hu).2⟩
  · rw [gZ'_0 hg hz] at p
    exact M.2.1 u hu p
