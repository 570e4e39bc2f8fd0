theorem bex_cong {p q : Nat → Bool} : ∀ {k i : Nat}, (∀ t, i ≤ t → t < i + k → p t = q t) → bex p k i = bex q k i := by
  intro k
  induction k with
  | zero => intro i _; rfl
  | succ k ih =>
    intro i h
    rw [bex, bex, h i (by omega) (by omega), ih (fun t a b => h t (by omega) (by omega))]
def gTh (g : Nat → Nat → Nat) (t : Nat) : Bool := decide (0 < g 0 t)
def gLk (g : Nat → Nat → Nat) (u t : Nat) : Bool := bex (fun k => decide (g 6 (4 * u + k) = t + 1)) 4 0
def gRt (g : Nat → Nat → Nat) (t : Nat) : Bool := bex (fun k => decide (g 7 k = t + 1)) 8 0
theorem gLk_iff (g : Nat → Nat → Nat) (u t : Nat) : gLk g u t = true ↔ ∃ k, k < 4 ∧ g 6 (4 * u + k) = t + 1 := by
  unfold gLk
  rw [bexI]
  exact ⟨fun ⟨k, a, b⟩ => ⟨k, a, of_decide_eq_true b⟩, fun ⟨k, a, b⟩ => ⟨k, a, decide_eq_true b⟩⟩
theorem gRt_iff (g : Nat → Nat → Nat) (t : Nat) : gRt g t = true ↔ ∃ k, k < 8 ∧ g 7 k = t + 1 := by
  unfold gRt
  rw [bexI]
  exact ⟨fun ⟨k, a, b⟩ => ⟨k, a, of_decide_eq_true b⟩, fun ⟨k, a, b⟩ => ⟨k, a, decide_eq_true b⟩⟩
/-- one cell put -/
def gset (g : Nat → Nat → Nat) (f i x : Nat) : Nat → Nat → Nat := fun a b => if a = f ∧ b = i then x else g a b
theorem gset_s (g : Nat → Nat → Nat) (f i x : Nat) : gset g f i x f i = x := by simp [gset]
theorem gset_n (g : Nat → Nat → Nat) {f i a b : Nat} (x : Nat) (h : ¬ (a = f ∧ b = i)) : gset g f i x a b = g a b := by simp [gset, h]
/-- links and roots are to things that are there -/
def gok (W : Nat → Bool) (g : Nat → Nat → Nat) : Prop := (∀ j, j < 160 → g 6 j ≤ 40 ∧ ∀ t, g 6 j = t + 1 → W t = true) ∧ (∀ k, k < 8 → g 7 k ≤ 40 ∧ ∀ t, g 7 k = t + 1 → W t = true)
theorem gok_6 {W : Nat → Bool} {g : Nat → Nat → Nat} (h : gok W g) (l : Nat) : gok W (gset g 6 l 0) := by
  refine ⟨fun j hj => ?_, fun k hk => ?_⟩
  · by_cases e : j = l
    · subst e; rw [gset_s]; exact ⟨Nat.zero_le _, fun t q => absurd q (by omega)⟩
    · rw [gset_n g 0 (fun q => e q.2)]; exact h.1 j hj
  · rw [gset_n g 0 (fun q => absurd q.1 (by decide))]; exact h.2 k hk
theorem gok_7 {W : Nat → Bool} {g : Nat → Nat → Nat} (h : gok W g) (l : Nat) : gok W (gset g 7 l 0) := by
  refine ⟨fun j hj => ?_, fun k hk => ?_⟩
  · rw [gset_n g 0 (fun q => absurd q.1 (by decide))]; exact h.1 j hj
  · by_cases e : k = l
    · subst e; rw [gset_s]; exact ⟨Nat.zero_le _, fun t q => absurd q (by omega)⟩
    · rw [gset_n g 0 (fun q => e q.2)]; exact h.2 k hk
theorem gok_6s {W : Nat → Bool} {g : Nat → Nat → Nat} (h : gok W g) (l b : Nat) (hb : b < 40) (hW : W b = true) : gok W (gset g 6 l (b + 1)) := by
  refine ⟨fun j hj => ?_, fun k hk => ?_⟩
  · by_cases e : j = l
    · subst e; rw [gset_s]; exact ⟨hb, fun t q => (show b = t by omega) ▸ hW⟩
    · rw [gset_n g _ (fun q => e q.2)]; exact h.1 j hj
  · rw [gset_n g _ (fun q => absurd q.1 (by decide))]; exact h.2 k hk
def gL (g : Nat → Nat → Nat) : Nat → Bool := blv (gRt g) (gLk g) 40
def gLb (g : Nat → Nat → Nat) (b : Nat) : Nat → Bool := blv (fun x => gRt g x && decide (x ≠ b)) (fun u x => gLk g u x && decide (x ≠ b)) 40
theorem bhas_g6 {W : Nat → Bool} {g : Nat → Nat → Nat} (h : gok W g) (lk : Nat → Int32) (a : Nat) (hl : ∀ j, j < 160 → lk (a + j) = bno (g 6 j)) {u t : Nat} (hu : u < 40) (ht : t < 40) : bhas (fun r => lk (a + (4 * u + r))) 4 (nI t) = gLk g u t := by
  unfold bhas gLk
  refine bex_cong (fun r _ hr => ?_)
  rw [decide_eq_decide]
  show lk (a + (4 * u + r)) = nI t ↔ _
  rw [hl _ (by omega), bno_nI (by have := (h.1 (4 * u + r) (by omega)).1; omega) (by omega)]
theorem bhas_g7 {W : Nat → Bool} {g : Nat → Nat → Nat} (h : gok W g) (rt : Nat → Int32) (a : Nat) (hl : ∀ k, k < 8 → rt (a + k) = bno (g 7 k)) {t : Nat} (ht : t < 40) : bhas (fun r => rt (a + r)) 8 (nI t) = gRt g t := by
  unfold bhas gRt
  refine bex_cong (fun r _ hr => ?_)
  rw [decide_eq_decide]
  show rt (a + r) = nI t ↔ _
  rw [hl _ (by omega), bno_nI (by have := (h.2 r (by omega)).1; omega) (by omega)]
theorem bhas_g6' {W : Nat → Bool} {g : Nat → Nat → Nat} (h : gok W g) (lk : Nat → Int32) (hl : ∀ j, j < 160 → lk j = bno (g 6 j)) {u t : Nat} (hu : u < 40) (ht : t < 40) : bhas (fun r => lk (4 * u + r)) 4 (nI t) = gLk g u t := by
  have := bhas_g6 h lk 0 (fun j hj => by rw [Nat.zero_add]; exact hl j hj) hu ht
  simpa using this
theorem bhas_g7' {W : Nat → Bool} {g : Nat → Nat → Nat} (h : gok W g) (rt : Nat → Int32) (hl : ∀ k, k < 8 → rt k = bno (g 7 k)) {t : Nat} (ht : t < 40) : bhas rt 8 (nI t) = gRt g t := by
  have := bhas_g7 h rt 0 (fun j hj => by rw [Nat.zero_add]; exact hl j hj) ht
  simpa using this
theorem gLk_th {W : Nat → Bool} {g : Nat → Nat → Nat} (h : gok W g) {u t : Nat} (hu : u < 40) (q : gLk g u t = true) : W t = true := by
  obtain ⟨k, hk, e⟩ := (gLk_iff g u t).mp q
  exact (h.1 _ (by omega)).2 t e
theorem gRt_th {W : Nat → Bool} {g : Nat → Nat → Nat} (h : gok W g) {t : Nat} (q : gRt g t = true) : W t = true := by
  obtain ⟨k, hk, e⟩ := (gRt_iff g t).mp q
  exact (h.2 k hk).2 t e
theorem and_th {a b : Bool} (h : a = true → b = true) : (a && b) = a := by
  cases a with
  | false => rfl
  | true => rw [h rfl]; rfl
/-- the class's live ones -/
theorem z_live {W : Nat → Bool} {g : Nat → Nat → Nat} (h : gok W g) {th : Int64} (hth : zh th W) (lk rt : Nat → Int32) (hl : ∀ j, j < 160 → lk j = bno (g 6 j)) (hr : ∀ k, k < 8 → rt k = bno (g 7 k)) : zh (mX10_live th lk rt) (gL g) := by
  unfold mX10_live
  refine zh_cong (s_reach _ th _ W (s_rooted rt) hth lk) (fun t ht => ?_)
  unfold gL
  refine blv_cong (fun t ht => ?_) (fun u t hu ht => ?_) 40 t ht
  · rw [bhas_g7' h rt hr ht]; exact and_th (gRt_th h)
  · rw [bhas_g6' h lk hl hu ht]; exact and_th (gLk_th h hu)
theorem z_cells6 {W : Nat → Bool} {g : Nat → Nat → Nat} (h : gok W g) (v : Nat) (lk : Nat → Int32) (hl : ∀ j, j < 160 → lk (160 * v + j) = bno (g 6 j)) : ∀ u k, u < 40 → k < 4 → lk (4 * (40 * v + u) + k) = -1 ∨ ∃ t, t < 40 ∧ lk (4 * (40 * v + u) + k) = nI t := by
  intro u k hu hk
  rw [show 4 * (40 * v + u) + k = 160 * v + (4 * u + k) by omega, hl _ (by omega)]
  have := (h.1 (4 * u + k) (by omega)).1
  rcases Nat.eq_zero_or_pos (g 6 (4 * u + k)) with e | e
  · left; rw [e]; rfl
  · right
    exact ⟨g 6 (4 * u + k) - 1, by omega, by rw [← bnoS]; congr 1; omega⟩
theorem z_cells7 {W : Nat → Bool} {g : Nat → Nat → Nat} (h : gok W g) (v : Nat) (rt : Nat → Int32) (hl : ∀ k, k < 8 → rt (8 * v + k) = bno (g 7 k)) : ∀ k, k < 8 → rt (8 * v + k) = -1 ∨ ∃ t, t < 40 ∧ rt (8 * v + k) = nI t := by
  intro k hk
  rw [hl k hk]
  have := (h.2 k hk).1
  rcases Nat.eq_zero_or_pos (g 7 k) with e | e
  · left; rw [e]; rfl
  · right
    exact ⟨g 7 k - 1, by omega, by rw [← bnoS]; congr 1; omega⟩
/-- what the reference's search leaves, for one R and E -/
def zO (R : Nat → Bool) (E : Nat → Nat → Bool) (r : Option (Int32 × (Nat → Int32) × (Nat → Int32))) : Prop := ∃ (af aq : Nat → Int32) (d : Nat → Nat),
  r = some (nI (fb_ct (blv R E 40) 40), af, aq) ∧ ∀ t, t < 40 → (blv R E 40 t = true → af t = nI (d t) ∧ d t < 40 ∧ blv R E (d t) t = true ∧ ∀ n, blv R E n t = true → d t ≤ n) ∧ (¬ blv R E 40 t = true → af t = 100000000)
theorem zO_of {v : Nat} {but butR butL : Int32} {lk rt : Nat → Int32} {r : Option (Int32 × (Nat → Int32) × (Nat → Int32))} (h : bfO v but butR butL lk rt r) {R : Nat → Bool} {E : Nat → Nat → Bool} (h1 : ∀ t, t < 40 → bfR v but butR rt t = R t) (h2 : ∀ u t, u < 40 → t < 40 → bfE v but butL lk u t = E u t) : zO R E r := by
  obtain ⟨m, af, aq, d, e, hm, hd⟩ := h
  have c := blv_cong h1 h2
  refine ⟨af, aq, d, ?_, fun t ht => ⟨fun q => ?_, fun q => ?_⟩⟩
  · rw [e, hm, fb_ct_cong (q := blv R E 40) (fun t ht => c 40 t ht)]
  · rw [← c 40 t ht] at q
    obtain ⟨a, b, x, y⟩ := (hd t ht).1 q
    exact ⟨a, b, by rw [← c _ t ht]; exact x, fun n hn => y n (by rw [c n t ht]; exact hn)⟩
  · rw [← c 40 t ht] at q
    exact ((hd t ht).2 q).1
section ZV
variable {W : Nat → Bool} {g : Nat → Nat → Nat} (lk rt : Nat → Int32)
theorem z_R (h : gok W g) (v : Nat) (hr : ∀ k, k < 8 → rt (8 * v + k) = bno (g 7 k)) (but butR : Int32) (t : Nat) (ht : t < 40) : bfR v but butR rt t = (decide (¬ nI t = but) && bex (fun k => decide (¬ nI k = butR ∧ g 7 k = t + 1)) 8 0) := by
  unfold bfR
  congr 1
  refine bex_cong (fun k _ hk => ?_)
  rw [decide_eq_decide, hr k (by omega), bno_nI (by have := (h.2 k (by omega)).1; omega) (by omega)]
theorem z_E (h : gok W g) (v : Nat) (hl : ∀ j, j < 160 → lk (160 * v + j) = bno (g 6 j)) (but butL : Int32) (u t : Nat) (hu : u < 40) (ht : t < 40) : bfE v but butL lk u t = (decide (¬ nI t = but) && bex (fun k => decide (¬ nI (4 * u + k) = butL ∧ g 6 (4 * u + k) = t + 1)) 4 0) := by
  unfold bfE
  congr 1
  refine bex_cong (fun k _ hk => ?_)
  rw [decide_eq_decide, show 4 * (40 * v + u) + k = 160 * v + (4 * u + k) by omega, hl _ (by omega), bno_nI (by have := (h.1 (4 * u + k) (by omega)).1; omega) (by omega)]
theorem z_m1 (t : Nat) (ht : t < 1000) : decide (¬ nI t = -1) = true := decide_eq_true (nI_m1 (by omega))
theorem z_lives (h : gok W g) (v : Nat) (hv : v < 22) (hl : ∀ j, j < 160 → lk (160 * v + j) = bno (g 6 j)) (hr : ∀ k, k < 8 → rt (8 * v + k) = bno (g 7 k)) (af aq : Nat → Int32) : zO (gRt g) (gLk g) (mX12_lives (nI v) (-1) (-1) (-1) lk rt af aq) := by
  refine zO_of (s_lives v hv (-1) (-1) (-1) lk rt (z_cells6 h v lk hl) (z_cells7 h v rt hr) af aq) (fun t ht => ?_) (fun u t hu ht => ?_)
  · rw [z_R rt h v hr _ _ t ht, z_m1 t (by omega), Bool.true_and]
    unfold gRt
    refine bex_cong (fun k _ hk => ?_)
    rw [decide_eq_decide]
    exact ⟨fun q => q.2, fun q => ⟨nI_m1 (by omega), q⟩⟩
  · rw [z_E lk h v hl _ _ u t hu ht, z_m1 t (by omega), Bool.true_and]
    unfold gLk
    refine bex_cong (fun k _ hk => ?_)
    rw [decide_eq_decide]
    exact ⟨fun q => q.2, fun q => ⟨nI_m1 (by omega), q⟩⟩
theorem z_lives_b (h : gok W g) (v : Nat) (hv : v < 22) (hl : ∀ j, j < 160 → lk (160 * v + j) = bno (g 6 j)) (hr : ∀ k, k < 8 → rt (8 * v + k) = bno (g 7 k)) (b : Nat) (hb : b < 40) (af aq : Nat → Int32) : zO (fun x => gRt g x && decide (x ≠ b)) (fun u x => gLk g u x && decide (x ≠ b)) (mX12_lives (nI v) (nI b) (-1) (-1) lk rt af aq) := by
  refine zO_of (s_lives v hv (nI b) (-1) (-1) lk rt (z_cells6 h v lk hl) (z_cells7 h v rt hr) af aq) (fun t ht => ?_) (fun u t hu ht => ?_)
  · rw [z_R rt h v hr _ _ t ht, Bool.and_comm]
    congr 1
    · unfold gRt
      refine bex_cong (fun k _ hk => ?_)
      rw [decide_eq_decide]
      exact ⟨fun q => q.2, fun q => ⟨nI_m1 (by omega), q⟩⟩
    · rw [decide_eq_decide, nI_eq (by omega) (by omega)]
  · rw [z_E lk h v hl _ _ u t hu ht, Bool.and_comm]
    congr 1
    · unfold gLk
      refine bex_cong (fun k _ hk => ?_)
      rw [decide_eq_decide]
      exact ⟨fun q => q.2, fun q => ⟨nI_m1 (by omega), q⟩⟩
    · rw [decide_eq_decide, nI_eq (by omega) (by omega)]
theorem z_lives_r (h : gok W g) (v : Nat) (hv : v < 22) (hl : ∀ j, j < 160 → lk (160 * v + j) = bno (g 6 j)) (hr : ∀ k, k < 8 → rt (8 * v + k) = bno (g 7 k)) (b : Nat) (hb : b < 8) (af aq : Nat → Int32) : zO (gRt (gset g 7 b 0)) (gLk (gset g 7 b 0)) (mX12_lives (nI v) (-1) (nI b) (-1) lk rt af aq) := by
  refine zO_of (s_lives v hv (-1) (nI b) (-1) lk rt (z_cells6 h v lk hl) (z_cells7 h v rt hr) af aq) (fun t ht => ?_) (fun u t hu ht => ?_)
  · rw [z_R rt h v hr _ _ t ht, z_m1 t (by omega), Bool.true_and]
    unfold gRt
    refine bex_cong (fun k _ hk => ?_)
    rw [decide_eq_decide, nI_eq (by omega) (by omega)]
    by_cases e : k = b
    · subst e; rw [gset_s]; constructor
      · intro q; exact absurd rfl q.1
      · intro q; omega
    · rw [gset_n g 0 (fun q => e q.2)]; exact ⟨fun q => q.2, fun q => ⟨e, q⟩⟩
  · rw [z_E lk h v hl _ _ u t hu ht, z_m1 t (by omega), Bool.true_and]
    unfold gLk
    refine bex_cong (fun k _ hk => ?_)
    rw [decide_eq_decide, gset_n g 0 (fun q => absurd q.1 (by decide))]
    exact ⟨fun q => q.2, fun q => ⟨nI_m1 (by omega), q⟩⟩
theorem z_lives_l (h : gok W g) (v : Nat) (hv : v < 22) (hl : ∀ j, j < 160 → lk (160 * v + j) = bno (g 6 j)) (hr : ∀ k, k < 8 → rt (8 * v + k) = bno (g 7 k)) (b : Nat) (hb : b < 160) (af aq : Nat → Int32) : zO (gRt (gset g 6 b 0)) (gLk (gset g 6 b 0)) (mX12_lives (nI v) (-1) (-1) (nI b) lk rt af aq) := by
  refine zO_of (s_lives v hv (-1) (-1) (nI b) lk rt (z_cells6 h v lk hl) (z_cells7 h v rt hr) af aq) (fun t ht => ?_) (fun u t hu ht => ?_)
  · rw [z_R rt h v hr _ _ t ht, z_m1 t (by omega), Bool.true_and]
    unfold gRt
    refine bex_cong (fun k _ hk => ?_)
    rw [decide_eq_decide, gset_n g 0 (fun q => absurd q.1 (by decide))]
    exact ⟨fun q => q.2, fun q => ⟨nI_m1 (by omega), q⟩⟩
  · rw [z_E lk h v hl _ _ u t hu ht, z_m1 t (by omega), Bool.true_and]
    unfold gLk
    refine bex_cong (fun k _ hk => ?_)
    rw [decide_eq_decide, nI_eq (by omega) (by omega)]
    by_cases e : 4 * u + k = b
    · rw [e, gset_s]; constructor
      · intro q; exact absurd rfl q.1
      · intro q; omega
    · rw [gset_n g 0 (fun q => e q.2)]; exact ⟨fun q => q.2, fun q => ⟨e, q⟩⟩
end ZV
theorem blv_sub {R R' : Nat → Bool} {E E' : Nat → Nat → Bool} (h1 : ∀ t, t < 40 → R t = true → R' t = true) (h2 : ∀ u t, u < 40 → t < 40 → E u t = true → E' u t = true) : ∀ n t, t < 40 → blv R E n t = true → blv R' E' n t = true := by
  intro n
  induction n with
  | zero => exact h1
  | succ n ih =>
    intro t ht h
    rw [blv_succ]
    rcases (blv_succ R E n t).mp h with h | ⟨u, a, b, c⟩
    · exact Or.inl (ih t ht h)
    · exact Or.inr ⟨u, a, ih u a b, h2 u t a ht c⟩
theorem gL_7 (g : Nat → Nat → Nat) (r : Nat) : fb_ct (gL (gset g 7 r 0)) 40 ≤ fb_ct (gL g) 40 := by
  refine fb_ct_sub (fun t ht h => ?_)
  refine blv_sub (fun t _ q => ?_) (fun u t _ _ q => ?_) 40 t ht h
  · obtain ⟨k, hk, e⟩ := (gRt_iff _ t).mp q
    refine (gRt_iff g t).mpr ⟨k, hk, ?_⟩
    by_cases z : k = r
    · subst z; rw [gset_s] at e; omega
    · rw [gset_n g 0 (fun q => z q.2)] at e; exact e
  · obtain ⟨k, hk, e⟩ := (gLk_iff _ u t).mp q
    rw [gset_n g 0 (fun q => absurd q.1 (by decide))] at e
    exact (gLk_iff g u t).mpr ⟨k, hk, e⟩
theorem gL_6 (g : Nat → Nat → Nat) (r : Nat) : fb_ct (gL (gset g 6 r 0)) 40 ≤ fb_ct (gL g) 40 := by
  refine fb_ct_sub (fun t ht h => ?_)
  refine blv_sub (fun t _ q => ?_) (fun u t _ _ q => ?_) 40 t ht h
  · obtain ⟨k, hk, e⟩ := (gRt_iff _ t).mp q
    rw [gset_n g 0 (fun q => absurd q.1 (by decide))] at e
    exact (gRt_iff g t).mpr ⟨k, hk, e⟩
  · obtain ⟨k, hk, e⟩ := (gLk_iff _ u t).mp q
    refine (gLk_iff g u t).mpr ⟨k, hk, ?_⟩
    by_cases z : 4 * u + k = r
    · rw [z, gset_s] at e; omega
    · rw [gset_n g 0 (fun q => z q.2)] at e; exact e
