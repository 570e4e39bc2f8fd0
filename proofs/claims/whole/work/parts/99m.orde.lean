/-- how many units ride in a car; how many things -/
def gUs (g : GH) (w c : Nat) : Nat := fb_sm (fun t => if 0 < g 0 t ∧ g 1 t = w ∧ g 2 t = c then g 0 t else 0) 40
def gNs (g : GH) (w c : Nat) : Nat := fb_ct (fun t => decide (0 < g 0 t ∧ g 1 t = w ∧ g 2 t = c)) 40
/-- a car in order, as the reference asks -/
def oCar (g : GH) (U w c : Nat) : Prop := gNs g w c = 0 ∨ ((c = 0 ∨ gNs g w (c - 1) ≠ 0) ∧ (c ≠ 0 ∨ w = 0 ∨ gNs g (w - 1) 0 ≠ 0) ∧ gUs g w c ≤ U ∧ ∀ p, p < gNs g w c → gRs g w c p = 1)
section OM
variable {g : GH} {U : Nat}
theorem gOb_iff (t : Nat) : gOb g t = true ↔ gRs g (g 1 t) (g 2 t) (g 3 t) = 1 ∧ (g 3 t = 0 ∨ gRs g (g 1 t) (g 2 t) (g 3 t - 1) = 1) ∧ (g 2 t = 0 ∨ gRs g (g 1 t) (g 2 t - 1) 0 = 1) ∧ (g 1 t = 0 ∨ gRs g (g 1 t - 1) 0 0 = 1) := by
  unfold gOb
  simp only [Bool.and_eq_true, Bool.or_eq_true, decide_eq_true_eq, and_assoc]
theorem oR1 {w c p : Nat} (h : gRs g w c p = 1) : ∃ u, u < 40 ∧ 0 < g 0 u ∧ g 1 u = w ∧ g 2 u = c ∧ g 3 u = p := by
  obtain ⟨u, hu, q⟩ := fb_ct_pos.mp (show 0 < fb_ct (fun t => decide (0 < g 0 t ∧ g 1 t = w ∧ g 2 t = c ∧ g 3 t = p)) 40 by unfold gRs at h; omega)
  have q := of_decide_eq_true q
  exact ⟨u, hu, q⟩
theorem ct_1 {p : Nat → Bool} {n t u : Nat} (h : fb_ct p n = 1) (ht : t < n) (hu : u < n) (pt : p t = true) (pu : p u = true) : t = u := by
  have z : ∀ s, s < n → p s = true → fb_ct p s = 0 := fun s hs ps => by
    have := fb_ct_mono p (show s + 1 ≤ n by omega)
    rw [fb_ct_succ, if_pos ps] at this
    omega
  exact fb_ct_kth_one pt pu (by rw [z t ht pt, z u hu pu])
theorem oR2 {w c p t u : Nat} (h : gRs g w c p = 1) (ht : t < 40) (hu : u < 40) (pt : 0 < g 0 t ∧ g 1 t = w ∧ g 2 t = c ∧ g 3 t = p) (pu : 0 < g 0 u ∧ g 1 u = w ∧ g 2 u = c ∧ g 3 u = p) : t = u :=
  ct_1 (p := fun t => decide (0 < g 0 t ∧ g 1 t = w ∧ g 2 t = c ∧ g 3 t = p)) h ht hu (decide_eq_true pt) (decide_eq_true pu)
theorem ord_pl (O : gOrd g) : ∀ d t p, t < 40 → 0 < g 0 t → p + d = g 3 t → ∃ u, u < 40 ∧ 0 < g 0 u ∧ g 1 u = g 1 t ∧ g 2 u = g 2 t ∧ g 3 u = p := by
  intro d
  induction d with
  | zero => intro t p ht h0 hp; exact ⟨t, ht, h0, rfl, rfl, hp.symm⟩
  | succ d ih =>
    intro t p ht h0 hp
    obtain ⟨-, h, -, -⟩ := (gOb_iff t).mp (O t ht h0)
    obtain ⟨u, hu, u0, u1, u2, u3⟩ := oR1 (h.resolve_left (by omega))
    obtain ⟨v, hv, v0, v1, v2, v3⟩ := ih u p hu u0 (by omega)
    exact ⟨v, hv, v0, v1.trans u1, v2.trans u2, v3⟩
theorem ord_ca (O : gOrd g) : ∀ d t c, t < 40 → 0 < g 0 t → c + d = g 2 t → ∃ u, u < 40 ∧ 0 < g 0 u ∧ g 1 u = g 1 t ∧ g 2 u = c ∧ (d ≠ 0 → g 3 u = 0) := by
  intro d
  induction d with
  | zero => intro t p ht h0 hp; exact ⟨t, ht, h0, rfl, hp.symm, fun q => absurd rfl q⟩
  | succ d ih =>
    intro t c ht h0 hp
    obtain ⟨-, -, h, -⟩ := (gOb_iff t).mp (O t ht h0)
    obtain ⟨u, hu, u0, u1, u2, u3⟩ := oR1 (h.resolve_left (by omega))
    obtain ⟨v, hv, v0, v1, v2, v3⟩ := ih u c hu u0 (by omega)
    by_cases z : d = 0
    · subst z
      exact ⟨u, hu, u0, u1, by omega, fun _ => u3⟩
    · exact ⟨v, hv, v0, v1.trans u1, v2, fun _ => v3 z⟩
theorem ord_tr (O : gOrd g) : ∀ d t w, t < 40 → 0 < g 0 t → w + d = g 1 t → ∃ u, u < 40 ∧ 0 < g 0 u ∧ g 1 u = w := by
  intro d
  induction d with
  | zero => intro t p ht h0 hp; exact ⟨t, ht, h0, hp.symm⟩
  | succ d ih =>
    intro t w ht h0 hp
    obtain ⟨-, -, -, h⟩ := (gOb_iff t).mp (O t ht h0)
    obtain ⟨u, hu, u0, u1, u2, u3⟩ := oR1 (h.resolve_left (by omega))
    exact ih u w hu u0 (by omega)
theorem pigeon {P : Nat → Bool} {f : Nat → Nat} : ∀ m, (∀ v, v < m → ∃ u, u < 40 ∧ P u = true ∧ f u = v) → m ≤ fb_ct (fun u => P u && decide (f u < m)) 40 := by
  intro m
  induction m with
  | zero => intro _; exact Nat.zero_le _
  | succ m ih =>
    intro h
    obtain ⟨t, ht, pt, ft⟩ := h m (Nat.lt_succ_self m)
    have a := ih (fun v hv => h v (by omega))
    have b := fb_ct_less (p := fun u => P u && decide (f u < m)) (q := fun u => P u && decide (f u < m + 1)) (n := 40) (t := t) ht (by
      show (P t && decide (f t < m + 1)) = true
      rw [pt, decide_eq_true (by omega)]; rfl) (fun u _ q => by
      have q := (Bool.and_eq_true _ _).mp q
      have q2 := of_decide_eq_true q.2
      refine ⟨fun e => ?_, ?_⟩
      · subst e; omega
      · show (P u && decide (f u < m + 1)) = true
        rw [q.1, decide_eq_true (by omega)]; rfl)
    omega
theorem ord_40 (O : gOrd g) {t : Nat} (ht : t < 40) (h0 : 0 < g 0 t) : g 1 t < 40 ∧ g 2 t < 40 ∧ g 3 t < 40 := by
  refine ⟨?_, ?_, ?_⟩
  · have := pigeon (P := fun u => decide (0 < g 0 u)) (f := g 1) (g 1 t + 1) (fun v hv => by
      obtain ⟨u, hu, u0, u1⟩ := ord_tr O (g 1 t - v) t v ht h0 (by omega)
      exact ⟨u, hu, decide_eq_true u0, u1⟩)
    have := fb_ct_le (fun u => decide (0 < g 0 u) && decide (g 1 u < g 1 t + 1)) 40
    omega
  · have := pigeon (P := fun u => decide (0 < g 0 u)) (f := g 2) (g 2 t + 1) (fun v hv => by
      obtain ⟨u, hu, u0, u1, u2, -⟩ := ord_ca O (g 2 t - v) t v ht h0 (by omega)
      exact ⟨u, hu, decide_eq_true u0, u2⟩)
    have := fb_ct_le (fun u => decide (0 < g 0 u) && decide (g 2 u < g 2 t + 1)) 40
    omega
  · have := pigeon (P := fun u => decide (0 < g 0 u)) (f := g 3) (g 3 t + 1) (fun v hv => by
      obtain ⟨u, hu, u0, u1, u2, u3⟩ := ord_pl O (g 3 t - v) t v ht h0 (by omega)
      exact ⟨u, hu, decide_eq_true u0, u3⟩)
    have := fb_ct_le (fun u => decide (0 < g 0 u) && decide (g 3 u < g 3 t + 1)) 40
    omega
def gNpl (g : GH) (w c m : Nat) : Nat := fb_ct (fun t => decide (0 < g 0 t ∧ g 1 t = w ∧ g 2 t = c ∧ g 3 t < m)) 40
theorem gNpl_s (w c m : Nat) : gNpl g w c (m + 1) = gNpl g w c m + gRs g w c m := by
  unfold gNpl gRs
  rw [← fb_ct_or (fun k _ q => by
    have a := of_decide_eq_true q.1
    have b := of_decide_eq_true q.2
    omega)]
  refine fb_ct_cong (fun k _ => ?_)
  rw [Bool.eq_iff_iff, Bool.or_eq_true, decide_eq_true_eq, decide_eq_true_eq, decide_eq_true_eq]
  omega
theorem gNpl_0 (w c : Nat) : gNpl g w c 0 = 0 := fb_ct_zero.mpr (fun k _ => decide_eq_false (fun q => by omega))
theorem gNpl_1 {w c : Nat} : ∀ m, (∀ p, p < m → gRs g w c p = 1) → gNpl g w c m = m := by
  intro m
  induction m with
  | zero => intro _; exact gNpl_0 w c
  | succ m ih => intro h; rw [gNpl_s, ih (fun p hp => h p (by omega)), h m (Nat.lt_succ_self m)]
theorem gNpl_2 {w c : Nat} : ∀ m, (∀ p, p < m → gRs g w c p ≤ 1) → gNpl g w c m ≤ m := by
  intro m
  induction m with
  | zero => intro _; rw [gNpl_0]; exact Nat.le_refl _
  | succ m ih => intro h; rw [gNpl_s]; have := ih (fun p hp => h p (by omega)); have := h m (Nat.lt_succ_self m); omega
/-- both orders are one -/
theorem ord_iff : ((∀ t, t < 40 → 0 < g 0 t → g 1 t < 40 ∧ g 2 t < 40 ∧ g 3 t < 40) ∧ ∀ w c, w < 40 → c < 40 → oCar g U w c) ↔ (gOrd g ∧ ∀ t, t < 40 → 0 < g 0 t → gUs g (g 1 t) (g 2 t) ≤ U) := by
  have nz : ∀ {t}, t < 40 → 0 < g 0 t → gNs g (g 1 t) (g 2 t) ≠ 0 := fun {t} ht h0 q => by
    have := fb_ct_zero.mp q t ht
    exact absurd ⟨h0, rfl, rfl⟩ (of_decide_eq_false this)
  have ex : ∀ {w c}, gNs g w c ≠ 0 → ∃ t, t < 40 ∧ 0 < g 0 t ∧ g 1 t = w ∧ g 2 t = c := fun {w c} h => by
    obtain ⟨u, hu, q⟩ := fb_ct_pos.mp (show 0 < fb_ct (fun t => decide (0 < g 0 t ∧ g 1 t = w ∧ g 2 t = c)) 40 by unfold gNs at h; omega)
    have q := of_decide_eq_true q
    exact ⟨u, hu, q⟩
  constructor
  · rintro ⟨h40, hC⟩
    have one : ∀ {w c}, w < 40 → c < 40 → gNs g w c ≠ 0 → ∀ p, p < gNs g w c → gRs g w c p = 1 := fun {w c} hw hc h => ((hC w c hw hc).resolve_left h).2.2.2
    have down : ∀ c w, w < 40 → c < 40 → gNs g w c ≠ 0 → gNs g w 0 ≠ 0 := by
      intro c
      induction c with
      | zero => intro w _ _ h; exact h
      | succ c ih =>
        intro w hw hc h
        have := ((hC w (c + 1) hw hc).resolve_left h).1.resolve_left (by omega)
        exact ih w hw (by omega) this
    refine ⟨fun t ht h0 => ?_, fun t ht h0 => ?_⟩
    · obtain ⟨a1, a2, a3⟩ := h40 t ht h0
      have n0 := nz ht h0
      have C := (hC _ _ a1 a2).resolve_left n0
      have m1 := gNpl_1 _ (one a1 a2 n0)
      have pl : g 3 t < gNs g (g 1 t) (g 2 t) := by
        refine Decidable.byContradiction (fun q => ?_)
        have := fb_ct_less (p := fun u => decide (0 < g 0 u ∧ g 1 u = g 1 t ∧ g 2 u = g 2 t ∧ g 3 u < gNs g (g 1 t) (g 2 t))) (q := fun u => decide (0 < g 0 u ∧ g 1 u = g 1 t ∧ g 2 u = g 2 t)) (n := 40) (t := t) ht (decide_eq_true ⟨h0, rfl, rfl⟩) (fun u _ y => by
          have y := of_decide_eq_true y
          refine ⟨fun e => ?_, decide_eq_true ⟨y.1, y.2.1, y.2.2.1⟩⟩
          subst e
          exact q y.2.2.2)
        have e : gNs g (g 1 t) (g 2 t) = fb_ct (fun u => decide (0 < g 0 u ∧ g 1 u = g 1 t ∧ g 2 u = g 2 t)) 40 := rfl
        unfold gNpl at m1
        omega
      refine (gOb_iff t).mpr ⟨one a1 a2 n0 _ pl, ?_, ?_, ?_⟩
      · by_cases z : g 3 t = 0
        · exact Or.inl z
        · exact Or.inr (one a1 a2 n0 _ (by omega))
      · by_cases z : g 2 t = 0
        · exact Or.inl z
        · have n1 := C.1.resolve_left z
          exact Or.inr (one a1 (by omega) n1 0 (by omega))
      · by_cases z : g 1 t = 0
        · exact Or.inl z
        · have n1 := down (g 2 t) (g 1 t) a1 a2 n0
          have n2 := ((((hC _ 0 a1 (by decide)).resolve_left n1).2.1).resolve_left (fun q => q rfl)).resolve_left z
          exact Or.inr (one (by omega) (by decide) n2 0 (by omega))
    · obtain ⟨a1, a2, a3⟩ := h40 t ht h0
      exact ((hC _ _ a1 a2).resolve_left (nz ht h0)).2.2.1
  · rintro ⟨O, hU⟩
    refine ⟨fun t ht h0 => ord_40 O ht h0, fun w c hw hc => ?_⟩
    by_cases z : gNs g w c = 0
    · exact Or.inl z
    · obtain ⟨t, ht, h0, e1, e2⟩ := ex z
      subst e1 e2
      obtain ⟨-, o2, o3, o4⟩ := (gOb_iff t).mp (O t ht h0)
      refine Or.inr ⟨?_, ?_, hU t ht h0, fun p hp => ?_⟩
      · by_cases y : g 2 t = 0
        · exact Or.inl y
        · obtain ⟨u, hu, u0, u1, u2, -⟩ := oR1 (o3.resolve_left y)
          refine Or.inr ?_
          have zz := nz hu u0
          rw [u1, u2] at zz
          exact zz
      · by_cases y : g 1 t = 0
        · exact Or.inr (Or.inl y)
        · obtain ⟨u, hu, u0, u1, u2, -⟩ := oR1 (o4.resolve_left y)
          refine Or.inr (Or.inr ?_)
          have zz := nz hu u0
          rw [u1, u2] at zz
          exact zz
      · have le1 : ∀ q, gRs g (g 1 t) (g 2 t) q ≤ 1 := fun q => by
          by_cases y : gRs g (g 1 t) (g 2 t) q = 0
          · omega
          · obtain ⟨u, hu, k⟩ := fb_ct_pos.mp (show 0 < fb_ct (fun t' => decide (0 < g 0 t' ∧ g 1 t' = g 1 t ∧ g 2 t' = g 2 t ∧ g 3 t' = q)) 40 by unfold gRs at y; omega)
            obtain ⟨k0, k1, k2, k3⟩ := of_decide_eq_true k
            have := ((gOb_iff u).mp (O u hu k0)).1
            rw [k1, k2, k3] at this
            omega
        by_cases y : ∃ u, u < 40 ∧ 0 < g 0 u ∧ g 1 u = g 1 t ∧ g 2 u = g 2 t ∧ p ≤ g 3 u
        · obtain ⟨u, hu, u0, u1, u2, u3⟩ := y
          obtain ⟨v, hv, v0, v1, v2, v3⟩ := ord_pl O (g 3 u - p) u p hu u0 (by omega)
          have := ((gOb_iff v).mp (O v hv v0)).1
          rw [v1, v2, v3, u1, u2] at this
          exact this
        · have le := gNpl_2 (w := g 1 t) (c := g 2 t) p (fun q _ => le1 q)
          have : gNpl g (g 1 t) (g 2 t) p = gNs g (g 1 t) (g 2 t) := by
            unfold gNpl gNs
            refine fb_ct_cong (fun k hk => ?_)
            rw [decide_eq_decide]
            constructor
            · rintro ⟨a, b, c, d⟩; exact ⟨a, b, c⟩
            · rintro ⟨a, b, c⟩
              exact ⟨a, b, c, Decidable.byContradiction (fun q => y ⟨k, hk, a, b, c, by omega⟩)⟩
          omega
/-- order is how things ride between STEPS -/
theorem ord_w (O : gOrd g) : (∀ t, t < 40 → 0 < g 0 t → ∀ w, w < g 1 t → ∃ u, u < 40 ∧ 0 < g 0 u ∧ g 1 u = w) ∧ (∀ t, t < 40 → 0 < g 0 t → ∀ c, c < g 2 t → ∃ u, u < 40 ∧ 0 < g 0 u ∧ g 1 u = g 1 t ∧ g 2 u = c) ∧ (∀ t, t < 40 → 0 < g 0 t → ∀ p, p < g 3 t → ∃ u, u < 40 ∧ 0 < g 0 u ∧ g 1 u = g 1 t ∧ g 2 u = g 2 t ∧ g 3 u = p) ∧ ∀ t u, t < 40 → u < 40 → 0 < g 0 t → 0 < g 0 u → g 1 t = g 1 u → g 2 t = g 2 u → g 3 t = g 3 u → t = u := by
  refine ⟨fun t ht h0 w hw => ord_tr O (g 1 t - w) t w ht h0 (by omega), fun t ht h0 c hc => ?_, fun t ht h0 p hp => ord_pl O (g 3 t - p) t p ht h0 (by omega), fun t u ht hu t0 u0 e1 e2 e3 => ?_⟩
  · obtain ⟨u, hu, u0, u1, u2, -⟩ := ord_ca O (g 2 t - c) t c ht h0 (by omega)
    exact ⟨u, hu, u0, u1, u2⟩
  · exact oR2 ((gOb_iff t).mp (O t ht t0)).1 ht hu ⟨t0, rfl, rfl, rfl⟩ ⟨u0, e1.symm, e2.symm, e3.symm⟩
end OM
section CH
variable {g : GH} {csz ctr cca cpl : Nat → Int32} {cth : Int64}
theorem gUs_lt (B : gByt g) (w c : Nat) : gUs g w c ≤ 40 * 255 := fb_sm_bound (fun k hk => by
  have := (B k hk).1
  split <;> omega)
theorem ci_hold (B : gByt g) (Y : cIm g csz ctr cca cpl) (hth : zh cth (gTh g)) {U : Nat} (hU : U ≤ 99) : ∀ k i, i + k = 40 → ((∀ t, i ≤ t → t < 40 → 0 < g 0 t → gUs g (g 1 t) (g 2 t) ≤ U) ∧ mX6_carsHold_4 (nI U) cth csz ctr cca k i true = true) ∨ (¬ (∀ t, i ≤ t → t < 40 → 0 < g 0 t → gUs g (g 1 t) (g 2 t) ≤ U) ∧ mX6_carsHold_4 (nI U) cth csz ctr cca k i true = false) := by
  have off : ∀ k i, mX6_carsHold_4 (nI U) cth csz ctr cca k i false = false := by
    intro k i
    cases k with
    | zero => rw [mX6_carsHold_4]
    | succ k => rw [mX6_carsHold_4, if_neg (by decide)]
  intro k
  induction k with
  | zero => intro i hi; exact Or.inl ⟨fun t h1 h2 => absurd h2 (by omega), by rw [mX6_carsHold_4]⟩
  | succ k ih =>
    intro i hi
    have hi40 : i < 40 := by omega
    have more : (0 < g 0 i → gUs g (g 1 i) (g 2 i) ≤ U) → ((∀ t, i + 1 ≤ t → t < 40 → 0 < g 0 t → gUs g (g 1 t) (g 2 t) ≤ U) ↔ (∀ t, i ≤ t → t < 40 → 0 < g 0 t → gUs g (g 1 t) (g 2 t) ≤ U)) := fun h => ⟨fun q t h1 h2 h3 => by
        by_cases e : t = i
        · subst e; exact h h3
        · exact q t (by omega) h2 h3, fun q t h1 h2 h3 => q t (by omega) h2 h3⟩
    rw [mX6_carsHold_4, if_pos rfl]
    have there : mX10_isThere (nI i) cth = decide (0 < g 0 i) := by
      unfold mX10_isThere
      rw [zh_in hth hi40]; rfl
    rw [there]
    by_cases p0 : 0 < g 0 i
    · rw [decide_eq_true p0, if_pos rfl]
      obtain ⟨e1, e2, e3⟩ := Y.2 i hi40 p0
      have bi := B i hi40
      have hm : zh (mX10_mates (nI i) csz ctr cca) (fun u => decide (0 < g 0 u ∧ g 1 u = g 1 i ∧ g 2 u = g 2 i)) := by
        refine zh_cong (s_mates i hi40 csz ctr cca) (fun u hu => ?_)
        have bu := B u hu
        rw [decide_eq_decide, Y.1 u hu, e1, e2, nIp (by omega)]
        constructor
        · rintro ⟨a, b, c⟩
          obtain ⟨f1, f2, -⟩ := Y.2 u hu a
          rw [f1] at b; rw [f2] at c
          exact ⟨a, (nI_eq (by omega) (by omega)).mp b, (nI_eq (by omega) (by omega)).mp c⟩
        · rintro ⟨a, b, c⟩
          obtain ⟨f1, f2, -⟩ := Y.2 u hu a
          exact ⟨a, by rw [f1, b], by rw [f2, c]⟩
      have hl : mX10_load (mX10_mates (nI i) csz ctr cca) csz = nI (gUs g (g 1 i) (g 2 i)) := by
        rw [s_load _ _ hm csz (g 0) Y.1]
        congr 1
        refine fb_sm_cong (fun u _ => ?_)
        simp only [decide_eq_true_eq]
      have lt := gUs_lt B (g 1 i) (g 2 i)
      rw [hl]
      by_cases h1 : gUs g (g 1 i) (g 2 i) ≤ U
      · rw [if_neg (nI_nlt h1 (by omega)), ← more (fun _ => h1)]
        exact ih (i + 1) (by omega)
      · rw [if_pos (nI_lt (by omega) (by omega)), off]
        exact Or.inr ⟨fun q => h1 (q i (Nat.le_refl _) hi40 p0), rfl⟩
    · rw [decide_eq_false p0, if_neg (by decide), ← more (fun q => absurd q p0)]
      exact ih (i + 1) (by omega)
end CH
