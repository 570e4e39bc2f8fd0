/-- reached within so many links -/
def blv (R : Nat → Bool) (E : Nat → Nat → Bool) : Nat → Nat → Bool
  | 0, t => R t
  | n + 1, t => blv R E n t || bex (fun u => blv R E n u && E u t) 40 0
theorem blv_succ (R : Nat → Bool) (E : Nat → Nat → Bool) (n t : Nat) : blv R E (n + 1) t = true ↔ blv R E n t = true ∨ ∃ u, u < 40 ∧ blv R E n u = true ∧ E u t = true := by
  rw [blv, Bool.or_eq_true, bex0, decide_eq_true_iff]
  constructor
  · rintro (h | ⟨u, h1, h2⟩)
    · exact Or.inl h
    · rw [Bool.and_eq_true] at h2; exact Or.inr ⟨u, h1, h2.1, h2.2⟩
  · rintro (h | ⟨u, h1, h2, h3⟩)
    · exact Or.inl h
    · exact Or.inr ⟨u, h1, by rw [h2, h3]; rfl⟩
theorem blv_mono (R : Nat → Bool) (E : Nat → Nat → Bool) (t : Nat) {n : Nat} : ∀ {m : Nat}, n ≤ m → blv R E n t = true → blv R E m t = true := by
  intro m
  induction m with
  | zero => intro h1 h2; rw [show n = 0 by omega] at h2; exact h2
  | succ m ih =>
    intro h1 h2
    by_cases e : n = m + 1
    · exact e ▸ h2
    · exact (blv_succ R E m t).mpr (Or.inl (ih (by omega) h2))
section BF
variable (R : Nat → Bool) (E : Nat → Nat → Bool)
def bfB (af aq : Nat → Int32) (m : Nat) (q d : Nat → Nat) : Prop :=
  (∀ j, j < m → q j < 40 ∧ aq j = nI (q j)) ∧ (∀ j k, j < k → k < m → q j ≠ q k) ∧ (∀ j, j < m → af (q j) = nI (d (q j)) ∧ d (q j) ≤ j) ∧
  (∀ t, t < 40 → (∀ j, j < m → q j ≠ t) → af t = 100000000) ∧ (∀ j k, j ≤ k → k < m → d (q j) ≤ d (q k)) ∧ (∀ j, j < m → blv R E (d (q j)) (q j) = true)
variable {R E}
theorem bfB_max {af aq : Nat → Int32} {m : Nat} {q d : Nat → Nat} (h : bfB R E af aq m q d) {t : Nat} (ht : t < 40) (hn : ∀ j, j < m → q j ≠ t) : m < 40 := by
  have := fb_holes 40 (m + 1) (fun j => if j < m then q j else t) (fun i hi => by
    by_cases e : i < m
    · simp only [if_pos e]; exact (h.1 i e).1
    · simp only [if_neg e]; exact ht) (fun i j hij hj => by
    have hi : i < m := by omega
    by_cases e : j < m
    · simp only [if_pos hi, if_pos e]; exact h.2.1 i j hij e
    · simp only [if_pos hi, if_neg e]; exact hn i hi)
  omega
theorem bfB_push {af aq : Nat → Int32} {m : Nat} {q d : Nat → Nat} (h : bfB R E af aq m q d) {t D : Nat} (ht : t < 40) (hn : ∀ j, j < m → q j ≠ t) (hD : ∀ j, j < m → d (q j) ≤ D) (hD2 : D ≤ m) (hs : blv R E D t = true) :
    bfB R E (upd af t (nI D)) (upd aq m (nI t)) (m + 1) (fun j => if j = m then t else q j) (fun x => if x = t then D else d x) := by
  obtain ⟨h1, h2, h3, h4, h5, h6⟩ := h
  have ne : ∀ j, j < m → ¬ q j = t := hn
  refine ⟨fun j hj => ?_, fun j k hjk hk => ?_, fun j hj => ?_, fun x hx hxn => ?_, fun j k hjk hk => ?_, fun j hj => ?_⟩
  · by_cases e : j = m
    · subst e; simp only [if_true]; exact ⟨ht, pk_us⟩
    · simp only [if_neg e]; rw [pk_un e]; exact h1 j (by omega)
  · by_cases e : k = m
    · subst e; simp only [if_true, if_neg (show ¬ j = k by omega)]; exact hn j hjk
    · simp only [if_neg e, if_neg (show ¬ j = m by omega)]; exact h2 j k hjk (by omega)
  · by_cases e : j = m
    · subst e; simp only [if_true]; exact ⟨pk_us, hD2⟩
    · simp only [if_neg e, if_neg (ne j (by omega))]; rw [pk_un (ne j (by omega))]; exact h3 j (by omega)
  · have a1 := hxn m (by omega)
    simp only [if_true] at a1
    rw [pk_un (fun z => a1 z.symm)]
    refine h4 x hx (fun j hj => ?_)
    have a2 := hxn j (by omega)
    simp only [if_neg (show ¬ j = m by omega)] at a2
    exact a2
  · by_cases e : k = m
    · subst e
      simp only [if_true]
      by_cases e2 : j = k
      · subst e2; simp only [if_true]; exact Nat.le_refl _
      · simp only [if_neg e2, if_neg (ne j (by omega))]; exact hD j (by omega)
    · simp only [if_neg e, if_neg (show ¬ j = m by omega), if_neg (ne j (by omega)), if_neg (ne k (by omega))]
      exact h5 j k hjk (by omega)
  · by_cases e : j = m
    · subst e; simp only [if_true]; exact hs
    · simp only [if_neg e, if_neg (ne j (by omega))]; exact h6 j (by omega)
end BF
section BL
/-- the first ones, the links, as one that leaves out asks -/
def bfR (v : Nat) (but : Int32) (butR : Int32) (rt : Nat → Int32) (t : Nat) : Bool := decide (¬ nI t = but) && bex (fun k => decide (¬ nI k = butR ∧ rt (8 * v + k) = nI t)) 8 0
def bfE (v : Nat) (but : Int32) (butL : Int32) (lk : Nat → Int32) (u t : Nat) : Bool := decide (¬ nI t = but) && bex (fun k => decide (¬ nI (4 * u + k) = butL ∧ lk (4 * (40 * v + u) + k) = nI t)) 4 0
theorem bfR_iff (v : Nat) (but : Int32) (butR : Int32) (rt : Nat → Int32) (t : Nat) : bfR v but butR rt t = true ↔ ¬ nI t = but ∧ ∃ k, k < 8 ∧ ¬ nI k = butR ∧ rt (8 * v + k) = nI t := by
  unfold bfR
  rw [Bool.and_eq_true, bexI, decide_eq_true_iff]
  constructor
  · rintro ⟨a, k, b, c⟩; exact ⟨a, k, b, (of_decide_eq_true c).1, (of_decide_eq_true c).2⟩
  · rintro ⟨a, k, b, c, d⟩; exact ⟨a, k, b, decide_eq_true ⟨c, d⟩⟩
theorem bfE_iff (v : Nat) (but : Int32) (butL : Int32) (lk : Nat → Int32) (u t : Nat) : bfE v but butL lk u t = true ↔ ¬ nI t = but ∧ ∃ k, k < 4 ∧ ¬ nI (4 * u + k) = butL ∧ lk (4 * (40 * v + u) + k) = nI t := by
  unfold bfE
  rw [Bool.and_eq_true, bexI, decide_eq_true_iff]
  constructor
  · rintro ⟨a, k, b, c⟩; exact ⟨a, k, b, (of_decide_eq_true c).1, (of_decide_eq_true c).2⟩
  · rintro ⟨a, k, b, c, d⟩; exact ⟨a, k, b, decide_eq_true ⟨c, d⟩⟩
/-- what the search leaves -/
def bfO (v : Nat) (but : Int32) (butR : Int32) (butL : Int32) (lk : Nat → Int32) (rt : Nat → Int32) (r : Option (Int32 × (Nat → Int32) × (Nat → Int32))) : Prop := ∃ (m : Nat) (af aq : Nat → Int32) (d : Nat → Nat),
  r = some (nI m, af, aq) ∧ m = fb_ct (fun t => blv (bfR v but butR rt) (bfE v but butL lk) 40 t) 40 ∧
  ∀ t, t < 40 → (blv (bfR v but butR rt) (bfE v but butL lk) 40 t = true → af t = nI (d t) ∧ d t < 40 ∧ blv (bfR v but butR rt) (bfE v but butL lk) (d t) t = true ∧ ∀ n, blv (bfR v but butR rt) (bfE v but butL lk) n t = true → d t ≤ n) ∧
    (¬ blv (bfR v but butR rt) (bfE v but butL lk) 40 t = true → af t = 100000000 ∧ ∀ n, ¬ blv (bfR v but butR rt) (bfE v but butL lk) n t = true)
def bfC (v : Nat) (but : Int32) (butR : Int32) (butL : Int32) (lk : Nat → Int32) (rt : Nat → Int32) (af aq : Nat → Int32) (m i : Nat) (q d : Nat → Nat) : Prop :=
  bfB (bfR v but butR rt) (bfE v but butL lk) af aq m q d ∧ (∀ t, t < 40 → bfR v but butR rt t = true → ∃ j, j < m ∧ q j = t ∧ d t = 0) ∧
  (∀ j, j < i → j < m → ∀ t, t < 40 → bfE v but butL lk (q j) t = true → ∃ k, k < m ∧ q k = t ∧ d t ≤ d (q j) + 1) ∧
  (∀ j, j < m → i < m → d (q j) ≤ d (q i) + 1)
theorem bfO_of (v : Nat) (but : Int32) (butR : Int32) (butL : Int32) (lk : Nat → Int32) (rt : Nat → Int32) {af aq : Nat → Int32} {m : Nat} {q d : Nat → Nat} (h : bfC v but butR butL lk rt af aq m m q d) : bfO v but butR butL lk rt (some (nI m, af, aq)) := by
  obtain ⟨⟨h1, h2, h3, h4, h5, h6⟩, hR, hE, _⟩ := h
  have hm : m ≤ 40 := fb_holes 40 m q (fun i hi => (h1 i hi).1) (fun i j a b => h2 i j a b)
  have key : ∀ n t, t < 40 → blv (bfR v but butR rt) (bfE v but butL lk) n t = true → ∃ j, j < m ∧ q j = t ∧ d t ≤ n := by
    intro n
    induction n with
    | zero =>
      intro t ht hb
      obtain ⟨j, a, b, c⟩ := hR t ht hb
      exact ⟨j, a, b, by omega⟩
    | succ n ih =>
      intro t ht hb
      rcases (blv_succ _ _ n t).mp hb with hb | ⟨u, hu, hb, he⟩
      · obtain ⟨j, a, b, c⟩ := ih t ht hb
        exact ⟨j, a, b, by omega⟩
      · obtain ⟨j, a, b, c⟩ := ih u hu hb
        obtain ⟨k, x, y, z⟩ := hE j a a t ht (by rw [b]; exact he)
        rw [b] at z
        exact ⟨k, x, y, by omega⟩
  have inq : ∀ t, t < 40 → (blv (bfR v but butR rt) (bfE v but butL lk) 40 t = true ↔ ∃ j, j < m ∧ q j = t) := by
    intro t ht
    constructor
    · intro hb
      obtain ⟨j, a, b, _⟩ := key 40 t ht hb
      exact ⟨j, a, b⟩
    · rintro ⟨j, a, b⟩
      have := h6 j a
      have e := (h3 j a).2
      rw [b] at this e
      exact blv_mono _ _ t (by omega) this
  refine ⟨m, af, aq, d, rfl, ?_, fun t ht => ⟨fun hb => ?_, fun hb => ?_⟩⟩
  · -- the queue is just those that are reached
    have hle : m ≤ fb_ct (fun t => blv (bfR v but butR rt) (bfE v but butL lk) 40 t) 40 := by
      refine fb_holes _ m (fun j => fb_ct (fun t => blv (bfR v but butR rt) (bfE v but butL lk) 40 t) (q j)) (fun j hj => ?_) (fun j k hjk hk => ?_)
      · have a := (h1 j hj).1
        have b : blv (bfR v but butR rt) (bfE v but butL lk) 40 (q j) = true := (inq _ a).mpr ⟨j, hj, rfl⟩
        have c := fb_ct_mono (fun t => blv (bfR v but butR rt) (bfE v but butL lk) 40 t) (show q j + 1 ≤ 40 by omega)
        rw [fb_ct_succ, if_pos b] at c
        omega
      · intro e
        exact h2 j k hjk hk (fb_ct_kth_one ((inq _ (h1 j (by omega)).1).mpr ⟨j, by omega, rfl⟩) ((inq _ (h1 k hk).1).mpr ⟨k, hk, rfl⟩) e)
    have hge : fb_ct (fun t => blv (bfR v but butR rt) (bfE v but butL lk) 40 t) 40 ≤ m := by
      have pick : ∀ c, c < fb_ct (fun t => blv (bfR v but butR rt) (bfE v but butL lk) 40 t) 40 → ∃ j, j < m ∧ fb_ct (fun t => blv (bfR v but butR rt) (bfE v but butL lk) 40 t) (q j) = c := by
        intro c hc
        obtain ⟨t, a, b, e⟩ := fb_ct_kth hc
        obtain ⟨j, x, y⟩ := (inq t a).mp b
        exact ⟨j, x, by rw [y]; exact e⟩
      refine fb_holes m _ (fun c => if hc : c < fb_ct (fun t => blv (bfR v but butR rt) (bfE v but butL lk) 40 t) 40 then (pick c hc).choose else 0) (fun c hc => ?_) (fun c c2 hcc hc2 => ?_)
      · simp only [dif_pos hc]
        exact (pick c hc).choose_spec.1
      · simp only [dif_pos hc2, dif_pos (Nat.lt_trans hcc hc2)]
        intro e
        have a := (pick c (Nat.lt_trans hcc hc2)).choose_spec.2
        have b := (pick c2 hc2).choose_spec.2
        rw [e, b] at a
        omega
    omega
  · obtain ⟨j, a, b⟩ := (inq t ht).mp hb
    have e := h3 j a
    have e6 := h6 j a
    rw [b] at e e6
    refine ⟨e.1, by omega, e6, fun n hn => ?_⟩
    obtain ⟨k, _, _, z⟩ := key n t ht hn
    exact z
  · have hn : ∀ j, j < m → q j ≠ t := fun j hj e => hb ((inq t ht).mpr ⟨j, hj, e⟩)
    refine ⟨h4 t ht hn, fun n hn2 => ?_⟩
    obtain ⟨k, a, b, _⟩ := key n t ht hn2
    exact hn k a b
theorem nI_lt_far {n : Nat} (h : n < 1000) : nI n < 100000000 := nI_lt (b := 100000000) (by omega) (by decide)
theorem s_lives_123 (v : Nat) (hv : v < 22) (but : Int32) (butR : Int32) (butL : Int32) (lk : Nat → Int32) (rt : Nat → Int32) (hlk : ∀ u k, u < 40 → k < 4 → lk (4 * (40 * v + u) + k) = -1 ∨ ∃ t, t < 40 ∧ lk (4 * (40 * v + u) + k) = nI t) (K : Int32 → Int32 → (Nat → Int32) → (Nat → Int32) → Option (Int32 × (Nat → Int32) × (Nat → Int32))) (x : Nat)
    (hK : ∀ (m : Nat) (af aq : Nat → Int32) (q d : Nat → Nat), bfC v but butR butL lk rt af aq m (x + 1) q d → x < m → bfO v but butR butL lk rt (K (nI m) (nI (x + 1)) af aq)) :
    ∀ (k i m : Nat) (af aq : Nat → Int32) (q d : Nat → Nat), i + k = 4 → x < m → bfC v but butR butL lk rt af aq m x q d → (∀ r t, r < i → t < 40 → ¬ nI t = but → ¬ nI (4 * q x + r) = butL → lk (4 * (40 * v + q x) + r) = nI t → ∃ j, j < m ∧ q j = t ∧ d t ≤ d (q x) + 1) →
      bfO v but butR butL lk rt (mX12_lives_123 (nI v) but butL lk (nI x) K k i (nI m) af aq) := by
  intro k
  induction k with
  | zero =>
    intro i m af aq q d hi hx hC hd
    rw [mX12_lives_123, nI_1]
    refine hK m af aq q d ⟨hC.1, hC.2.1, fun j hj hjm t ht he => ?_, fun j hj hx1 => ?_⟩ hx
    · by_cases e : j = x
      · subst e
        obtain ⟨he1, r, hr, he2, he3⟩ := (bfE_iff v but butL lk _ _).mp he
        exact hd r t (by omega) ht he1 he2 he3
      · exact hC.2.2.1 j (by omega) hjm t ht he
    · have a := hC.2.2.2 j hj hx
      have b := hC.1.2.2.2.2.1 x (x + 1) (by omega) hx1
      omega
  | succ k ih =>
    intro i m af aq q d hi hx hC hd
    have hB := hC.1
    have hqx := hB.1 x hx
    have hm : m ≤ 40 := fb_holes 40 m q (fun i hi => (hB.1 i hi).1) (fun i j a b => hB.2.1 i j a b)
    have hi4 : i < 4 := by omega
    have hlkx := hlk (q x) i hqx.1 hi4
    have eidx : (160 : Int32) * nI v + (4 * nI (q x) + nI i) = nI (4 * (40 * v + q x) + i) := by
      rw [show (160 : Int32) = nI 160 from rfl, show (4 : Int32) = nI 4 from rfl, pk_mul, pk_mul, nI_add, nI_add]
      congr 1
      omega
    have eidx2 : (4 : Int32) * nI (q x) + nI i = nI (4 * q x + i) := by
      rw [show (4 : Int32) = nI 4 from rfl, pk_mul, nI_add]
    have hb1 : xinb (nI (4 * (40 * v + q x) + i)) 3520 = true := zb _ _ (by omega) (by decide)
    have hc1 : (nI (4 * (40 * v + q x) + i)).toNatClampNeg = 4 * (40 * v + q x) + i := zc _ (by omega)
    rw [mX12_lives_123, zb x 40 (by omega) (by decide), zc x (by omega), hqx.2, eidx, eidx2, hb1, hc1]
    simp only [if_true]
    have next := ih (i + 1) m af aq q d (by omega) hx hC
    by_cases h1 : nI (4 * q x + i) = butL
    · rw [if_pos h1]
      refine next (fun r t hr ht h2 h3 h4 => ?_)
      by_cases e : r = i
      · subst e; exact absurd h1 h3
      · exact hd r t (by omega) ht h2 h3 h4
    · rw [if_neg h1]
      by_cases h2 : lk (4 * (40 * v + q x) + i) = -1
      · rw [if_pos h2]
        refine next (fun r t hr ht h3 h4 h5 => ?_)
        by_cases e : r = i
        · subst e; rw [h2] at h5; exact absurd h5.symm (nI_m1 (by omega))
        · exact hd r t (by omega) ht h3 h4 h5
      · rw [if_neg h2]
        obtain ⟨t, ht, et⟩ : ∃ t, t < 40 ∧ lk (4 * (40 * v + q x) + i) = nI t := hlkx.elim (fun z => absurd z h2) id
        rw [et]
        by_cases h3 : nI t = but
        · rw [if_pos h3]
          refine next (fun r t' hr ht' h4 h5 h6 => ?_)
          by_cases e : r = i
          · subst e; rw [et] at h6
            have := (nI_eq (by omega) (by omega)).mp h6
            subst this
            exact absurd h3 h4
          · exact hd r t' (by omega) ht' h4 h5 h6
        · rw [if_neg h3, zb t 40 ht (by decide), zc t (by omega), zb (q x) 40 hqx.1 (by decide), zc (q x) (by omega)]
          simp only [if_true]
          by_cases hin : ∃ j, j < m ∧ q j = t
          · obtain ⟨j, hj, ej⟩ := hin
            have h3j := hB.2.2.1 j hj
            rw [ej] at h3j
            rw [h3j.1, if_pos (nI_lt_far (by omega))]
            refine next (fun r t' hr ht' h4 h5 h6 => ?_)
            by_cases e : r = i
            · subst e; rw [et] at h6
              have := (nI_eq (by omega) (by omega)).mp h6
              subst this
              have a := hC.2.2.2 j hj hx
              rw [ej] at a
              exact ⟨j, hj, ej, a⟩
            · exact hd r t' (by omega) ht' h4 h5 h6
          · have hn : ∀ j, j < m → q j ≠ t := fun j hj e => hin ⟨j, hj, e⟩
            have hm40 := bfB_max hB ht hn
            rw [hB.2.2.2.1 t ht hn, if_neg (by decide), zb m 40 hm40 (by decide), zc m (by omega)]
            simp only [if_true]
            have hxd := hB.2.2.1 x hx
            rw [hxd.1, nI_1, nI_1]
            have hEt : bfE v but butL lk (q x) t = true := (bfE_iff v but butL lk _ _).mpr ⟨h3, i, hi4, h1, et⟩
            have hP := bfB_push hB ht hn (D := d (q x) + 1) (fun j hj => hC.2.2.2 j hj hx) (by omega) ((blv_succ _ _ _ t).mpr (Or.inr ⟨q x, hqx.1, hB.2.2.2.2.2 x hx, hEt⟩))
            have nex : ∀ j, j < m → ¬ q j = t := hn
            refine ih (i + 1) (m + 1) _ _ (fun j => if j = m then t else q j) (fun y => if y = t then d (q x) + 1 else d y) (by omega) (by omega) ⟨hP, fun y hy hr => ?_, fun j hj hjm y hy he => ?_, fun j hj _ => ?_⟩ (fun r t' hr ht' h4 h5 h6 => ?_)
            · obtain ⟨j, a, b, c⟩ := hC.2.1 y hy hr
              refine ⟨j, by omega, ?_, ?_⟩
              · simp only [if_neg (show ¬ j = m by omega)]; exact b
              · have : ¬ y = t := fun z => nex j a (b.trans z)
                simp only [if_neg this]; exact c
            · have jm : ¬ j = m := by omega
              simp only [if_neg jm] at he ⊢
              obtain ⟨j2, a, b, c⟩ := hC.2.2.1 j hj (by omega) y hy he
              refine ⟨j2, by omega, ?_, ?_⟩
              · simp only [if_neg (show ¬ j2 = m by omega)]; exact b
              · have : ¬ y = t := fun z => nex j2 a (b.trans z)
                simp only [if_neg this, if_neg (nex j (by omega))]; exact c
            · have xm : ¬ x = m := by omega
              simp only [if_neg xm, if_neg (nex x hx)]
              by_cases e : j = m
              · subst e; simp only [if_true]; exact Nat.le_refl _
              · simp only [if_neg e, if_neg (nex j (by omega))]; exact hC.2.2.2 j (by omega) hx
            · have xm : ¬ x = m := by omega
              simp only [if_neg xm] at h5 h6 ⊢
              simp only [if_neg (nex x hx)]
              by_cases e : r = i
              · subst e; rw [et] at h6
                have := (nI_eq (by omega) (by omega)).mp h6
                subst this
                exact ⟨m, by omega, by simp only [if_true], by simp only [if_true]; exact Nat.le_refl _⟩
              · obtain ⟨j2, a, b, c⟩ := hd r t' (by omega) ht' h4 h5 h6
                refine ⟨j2, by omega, ?_, ?_⟩
                · simp only [if_neg (show ¬ j2 = m by omega)]; exact b
                · have : ¬ t' = t := fun z => nex j2 a (b.trans z)
                  simp only [if_neg this]; exact c
theorem s_lives_113 (v : Nat) (hv : v < 22) (but : Int32) (butR : Int32) (butL : Int32) (lk : Nat → Int32) (rt : Nat → Int32) (hlk : ∀ u k, u < 40 → k < 4 → lk (4 * (40 * v + u) + k) = -1 ∨ ∃ t, t < 40 ∧ lk (4 * (40 * v + u) + k) = nI t) :
    ∀ (f m i : Nat) (af aq : Nat → Int32) (q d : Nat → Nat), 41 - i < f → i ≤ m → bfC v but butR butL lk rt af aq m i q d → bfO v but butR butL lk rt (mX12_lives_113 (nI v) but butL lk f (nI m) (nI i) af aq) := by
  intro f
  induction f with
  | zero => intro m i af aq q d h; omega
  | succ f ih =>
    intro m i af aq q d hf hi hC
    have hB := hC.1
    have hm : m ≤ 40 := fb_holes 40 m q (fun i hi => (hB.1 i hi).1) (fun i j a b => hB.2.1 i j a b)
    rw [mX12_lives_113]
    by_cases h : i < m
    · rw [if_pos (nI_lt h (by omega))]
      refine s_lives_123 v hv but butR butL lk rt hlk _ i (fun m' af' aq' q' d' hC' hx' => ?_) 4 0 m af aq q d rfl h hC (fun r t hr => by omega)
      exact ih m' (i + 1) af' aq' q' d' (by omega) (by omega) hC'
    · rw [if_neg (nI_nlt (by omega) (by omega))]
      have : i = m := by omega
      subst this
      exact bfO_of v but butR butL lk rt hC
theorem s_lives_32 (v : Nat) (hv : v < 22) (but : Int32) (butR : Int32) (butL : Int32) (lk : Nat → Int32) (rt : Nat → Int32) (hlk : ∀ u k, u < 40 → k < 4 → lk (4 * (40 * v + u) + k) = -1 ∨ ∃ t, t < 40 ∧ lk (4 * (40 * v + u) + k) = nI t) (hrt : ∀ k, k < 8 → rt (8 * v + k) = -1 ∨ ∃ t, t < 40 ∧ rt (8 * v + k) = nI t) :
    ∀ (k i m : Nat) (af aq : Nat → Int32) (q d : Nat → Nat), i + k = 8 → bfB (bfR v but butR rt) (bfE v but butL lk) af aq m q d → (∀ j, j < m → d (q j) = 0) → (∀ r t, r < i → t < 40 → ¬ nI t = but → ¬ nI r = butR → rt (8 * v + r) = nI t → ∃ j, j < m ∧ q j = t) →
      bfO v but butR butL lk rt (mX12_lives_32 (nI v) but butR butL lk rt k i (nI m) af aq) := by
  intro k
  induction k with
  | zero =>
    intro i m af aq q d hi hB h0 hR
    rw [mX12_lives_32]
    refine s_lives_113 v hv but butR butL lk rt hlk xfuel m 0 af aq q d (by unfold xfuel; omega) (Nat.zero_le _) ⟨hB, fun t ht hr => ?_, fun j hj => by omega, fun j hj _ => ?_⟩
    · obtain ⟨a, r, hr2, b, c⟩ := (bfR_iff v but butR rt _).mp hr
      obtain ⟨j, x, y⟩ := hR r t (by omega) ht a b c
      have := h0 j x
      rw [y] at this
      exact ⟨j, x, y, this⟩
    · rw [h0 j hj]; omega
  | succ k ih =>
    intro i m af aq q d hi hB h0 hR
    have hm : m ≤ 40 := fb_holes 40 m q (fun i hi => (hB.1 i hi).1) (fun i j a b => hB.2.1 i j a b)
    rw [mX12_lives_32, zb_r v i hv (by omega), zc_r v i hv (by omega)]
    simp only [if_true]
    have next := ih (i + 1) m af aq q d (by omega) hB h0
    by_cases h1 : nI i = butR
    · rw [if_pos h1]
      refine next (fun r t hr ht h2 h3 h4 => ?_)
      by_cases e : r = i
      · subst e; exact absurd h1 h3
      · exact hR r t (by omega) ht h2 h3 h4
    · rw [if_neg h1]
      by_cases h2 : rt (8 * v + i) = -1
      · rw [if_pos h2]
        refine next (fun r t hr ht h3 h4 h5 => ?_)
        by_cases e : r = i
        · subst e; rw [h2] at h5; exact absurd h5.symm (nI_m1 (by omega))
        · exact hR r t (by omega) ht h3 h4 h5
      · rw [if_neg h2]
        obtain ⟨t, ht, et⟩ : ∃ t, t < 40 ∧ rt (8 * v + i) = nI t := (hrt i (by omega)).elim (fun z => absurd z h2) id
        rw [et]
        by_cases h3 : nI t = but
        · rw [if_pos h3]
          refine next (fun r t' hr ht' h4 h5 h6 => ?_)
          by_cases e : r = i
          · subst e; rw [et] at h6
            have := (nI_eq (by omega) (by omega)).mp h6
            subst this
            exact absurd h3 h4
          · exact hR r t' (by omega) ht' h4 h5 h6
        · rw [if_neg h3, zb t 40 ht (by decide), zc t (by omega)]
          simp only [if_true]
          by_cases hin : ∃ j, j < m ∧ q j = t
          · obtain ⟨j, hj, ej⟩ := hin
            have h3j := hB.2.2.1 j hj
            have h0j := h0 j hj
            rw [ej] at h3j h0j
            rw [h3j.1, h0j, if_pos nI_0]
            refine next (fun r t' hr ht' h4 h5 h6 => ?_)
            by_cases e : r = i
            · subst e; rw [et] at h6
              have := (nI_eq (by omega) (by omega)).mp h6
              subst this
              exact ⟨j, hj, ej⟩
            · exact hR r t' (by omega) ht' h4 h5 h6
          · have hn : ∀ j, j < m → q j ≠ t := fun j hj e => hin ⟨j, hj, e⟩
            have hm40 := bfB_max hB ht hn
            rw [hB.2.2.2.1 t ht hn, if_neg (by decide), zb m 40 hm40 (by decide), zc m (by omega)]
            simp only [if_true]
            rw [nI_1]
            have hRt : bfR v but butR rt t = true := (bfR_iff v but butR rt _).mpr ⟨h3, i, by omega, h1, et⟩
            have hP := bfB_push hB ht hn (D := 0) (fun j hj => by rw [h0 j hj]; exact Nat.le_refl _) (Nat.zero_le _) hRt
            have nex : ∀ j, j < m → ¬ q j = t := hn
            refine ih (i + 1) (m + 1) _ _ (fun j => if j = m then t else q j) (fun y => if y = t then 0 else d y) (by omega) hP (fun j hj => ?_) (fun r t' hr ht' h4 h5 h6 => ?_)
            · by_cases e : j = m
              · subst e; simp only [if_true]
              · simp only [if_neg e, if_neg (nex j (by omega))]; exact h0 j (by omega)
            · by_cases e : r = i
              · subst e; rw [et] at h6
                have := (nI_eq (by omega) (by omega)).mp h6
                subst this
                exact ⟨m, by omega, by simp only [if_true]⟩
              · obtain ⟨j, a, b⟩ := hR r t' (by omega) ht' h4 h5 h6
                exact ⟨j, by omega, by simp only [if_neg (show ¬ j = m by omega)]; exact b⟩
theorem s_lives_6 (v : Nat) (hv : v < 22) (but : Int32) (butR : Int32) (butL : Int32) (lk : Nat → Int32) (rt : Nat → Int32) (hlk : ∀ u k, u < 40 → k < 4 → lk (4 * (40 * v + u) + k) = -1 ∨ ∃ t, t < 40 ∧ lk (4 * (40 * v + u) + k) = nI t) (hrt : ∀ k, k < 8 → rt (8 * v + k) = -1 ∨ ∃ t, t < 40 ∧ rt (8 * v + k) = nI t) (aq : Nat → Int32) :
    ∀ (k i : Nat) (af : Nat → Int32), i + k = 40 → (∀ t, t < i → af t = 100000000) → bfO v but butR butL lk rt (mX12_lives_6 (nI v) but butR butL lk rt aq k i af) := by
  intro k
  induction k with
  | zero =>
    intro i af hi h
    rw [mX12_lives_6]
    refine s_lives_32 v hv but butR butL lk rt hlk hrt 8 0 0 af aq (fun _ => 0) (fun _ => 0) rfl ⟨fun j hj => by omega, fun j k _ hk => by omega, fun j hj => by omega, fun t ht _ => h t (by omega), fun j k _ hk => by omega, fun j hj => by omega⟩ (fun j hj => by omega) (fun r t hr => by omega)
  | succ k ih =>
    intro i af hi h
    rw [mX12_lives_6, zc i (by omega)]
    refine ih (i + 1) _ (by omega) (fun t ht => ?_)
    by_cases e : t = i
    · subst e; exact pk_us
    · rw [pk_un e]; exact h t (by omega)
theorem s_lives (v : Nat) (hv : v < 22) (but : Int32) (butR : Int32) (butL : Int32) (lk : Nat → Int32) (rt : Nat → Int32) (hlk : ∀ u k, u < 40 → k < 4 → lk (4 * (40 * v + u) + k) = -1 ∨ ∃ t, t < 40 ∧ lk (4 * (40 * v + u) + k) = nI t) (hrt : ∀ k, k < 8 → rt (8 * v + k) = -1 ∨ ∃ t, t < 40 ∧ rt (8 * v + k) = nI t) (af aq : Nat → Int32) :
    bfO v but butR butL lk rt (mX12_lives (nI v) but butR butL lk rt af aq) :=
  s_lives_6 v hv but butR butL lk rt hlk hrt aq 40 0 af rfl (fun t ht => by omega)
end BL
