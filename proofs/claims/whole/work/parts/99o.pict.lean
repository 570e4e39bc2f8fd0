/-- where the things of an image stand, what it tells -/
def iP (tx : Nat → Nat) : Nat → Nat
  | 0 => 10
  | i + 1 => if tx (iP tx i) = 0 then iP tx i + 1 else iP tx i + 10
def iV (tx : Nat → Nat) (a t : Nat) : Nat := if tx (iP tx t) = 0 then 0 else tx (iP tx t + a)
def iOk (tx : Nat → Nat) (n U t : Nat) : Prop := tx (iP tx t) = 0 ∨ (iP tx t + 10 < n ∧ tx (iP tx t) ≤ U ∧ tx (iP tx t + 4) ≤ 99 ∧ tx (iP tx t + 5) ≤ 1)
abbrev CB : Type := Int64 × Int64 × Int32 × Int32 × (Nat → Int32) × (Nat → Int32) × (Nat → Int32) × (Nat → Int32) × (Nat → Int32) × (Nat → Int32) × (Nat → Int32) × (Nat → Int32) × (Nat → Int64)
section IA
variable {tx : Nat → Nat} {n U : Nat} {tc : Nat → Int32}
theorem iP_le : ∀ i, 10 + i ≤ iP tx i ∧ iP tx i ≤ 10 + 10 * i
  | 0 => ⟨Nat.le_refl _, Nat.le_refl _⟩
  | i + 1 => by
    have := iP_le i
    rw [iP]
    split <;> omega
theorem iP_up (i : Nat) : ∀ k, iP tx i ≤ iP tx (i + k)
  | 0 => Nat.le_refl _
  | k + 1 => by
    have := iP_up i k
    rw [← Nat.add_assoc, iP]
    split <;> omega
theorem ic_0 (k i : Nat) (x4 : Int32) (th mk : Int64) (tn : Int32) (sz ag tr ca pl lk rt cs : Nat → Int32) (fr : Nat → Int64) : ∃ s : CB, mX6_read_79 1600 (nI n) (nI U) tc k i x4 0 th mk tn sz ag tr ca pl lk rt cs fr = (false, s) := by
  cases k with
  | zero =>
    rw [mX6_read_79]
    unfold mX6_read_160
    rw [if_pos rfl]
    exact ⟨_, rfl⟩
  | succ k =>
    rw [mX6_read_79, if_pos rfl]
    unfold mX6_read_160
    rw [if_pos rfl]
    exact ⟨_, rfl⟩
/-- behind the end all is refused -/
theorem ic_late (hn : n ≤ 411) : ∀ k i x, n ≤ x → x + 10 * k ≤ 1000 → ∀ (x5 : Int32) (th mk : Int64) (tn : Int32) (sz ag tr ca pl lk rt cs : Nat → Int32) (fr : Nat → Int64), ∃ s : CB, mX6_read_79 1600 (nI n) (nI U) tc k i (nI x) x5 th mk tn sz ag tr ca pl lk rt cs fr = (false, s) := by
  intro k
  induction k with
  | zero =>
    intro i x hx hx2 x5 th mk tn sz ag tr ca pl lk rt cs fr
    rw [mX6_read_79]
    unfold mX6_read_160
    by_cases h : x5 = 0
    · rw [if_pos h]; exact ⟨_, rfl⟩
    · rw [if_neg h]
      by_cases z : n = 0
      · subst z
        rw [if_neg (show ¬ nI x = nI 0 - 1 from fun q => by
          have : nI 0 - 1 = (-1 : Int32) := by decide
          rw [this] at q
          exact nI_m1 (by omega) q)]
        exact ⟨_, rfl⟩
      · rw [if_neg (show ¬ nI x = nI n - 1 from fun q => by
          rw [show nI n - 1 = nI (n - 1) from pk_sub (b := 1) (by omega)] at q
          have := (nI_eq (by omega) (by omega)).mp q
          omega)]
        exact ⟨_, rfl⟩
  | succ k ih =>
    intro i x hx hx2 x5 th mk tn sz ag tr ca pl lk rt cs fr
    rw [mX6_read_79]
    by_cases h : x5 = 0
    · rw [if_pos h]
      unfold mX6_read_160
      rw [if_pos h]
      exact ⟨_, rfl⟩
    · rw [if_neg h]
      by_cases z : mX11_at 1600 (nI x) tc = 0
      · rw [if_pos z]
        unfold mX6_read_138
        rw [if_pos z, nI_1]
        exact ih (i + 1) (x + 1) (by omega) (by omega) x5 th mk tn sz ag tr ca pl lk rt cs fr
      · rw [if_neg z, show nI x + 10 = nI (x + 10) by rw [show (10 : Int32) = nI 10 from rfl, nI_add], if_neg (show ¬ nI (x + 10) < nI n from nI_nlt (by omega) (by omega))]
        unfold mX6_read_135 mX6_read_136 mX6_read_138
        rw [if_neg z]
        exact ic_0 k (i + 1) _ th mk tn sz ag tr ca pl lk rt cs fr
/-- what the class holds when i things are read -/
def iCs (tx : Nat → Nat) (i : Nat) (th mk : Int64) (sz ag tr ca pl : Nat → Int32) : Prop :=
  zh th (fun t => decide (t < i ∧ 0 < iV tx 0 t)) ∧ zh mk (fun t => decide (t < i ∧ iV tx 5 t = 1)) ∧ (∀ t, t < 40 → sz t = nI (if t < i then iV tx 0 t else 0) ∧ ag t = nI (if t < i then iV tx 4 t else 0)) ∧ ∀ t, t < i → 0 < iV tx 0 t → tr t = nI (iV tx 1 t) ∧ ca t = nI (iV tx 2 t) ∧ pl t = nI (iV tx 3 t)
theorem iV_0 {a t : Nat} (h : tx (iP tx t) = 0) : iV tx a t = 0 := if_pos h
theorem iV_1 {t : Nat} (h : ¬ tx (iP tx t) = 0) (a : Nat) : iV tx a t = tx (iP tx t + a) := if_neg h
theorem lt_si {t i : Nat} (q : Prop) : (t < i + 1 ∧ q) ↔ ((t < i ∧ q) ∨ (t = i ∧ q)) := by
  constructor
  · rintro ⟨a, b⟩
    by_cases e : t = i
    · exact Or.inr ⟨e, b⟩
    · exact Or.inl ⟨by omega, b⟩
  · rintro (⟨a, b⟩ | ⟨a, b⟩)
    · exact ⟨by omega, b⟩
    · exact ⟨by omega, b⟩
theorem iCs_0 {i : Nat} (hi : i < 40) (h : tx (iP tx i) = 0) {th mk : Int64} {sz ag tr ca pl : Nat → Int32} (C : iCs tx i th mk sz ag tr ca pl) : iCs tx (i + 1) th mk sz ag tr ca pl := by
  obtain ⟨c1, c2, c3, c4⟩ := C
  refine ⟨zh_cong c1 (fun t _ => ?_), zh_cong c2 (fun t _ => ?_), fun t ht => ?_, fun t ht p => ?_⟩
  · rw [decide_eq_decide, lt_si]
    exact ⟨Or.inl, fun q => q.resolve_right (fun y => by rw [y.1, iV_0 h] at y; omega)⟩
  · rw [decide_eq_decide, lt_si]
    exact ⟨Or.inl, fun q => q.resolve_right (fun y => by rw [y.1, iV_0 h] at y; omega)⟩
  · by_cases e : t = i
    · subst e
      have := c3 t ht
      rw [if_neg (Nat.lt_irrefl _), if_neg (Nat.lt_irrefl _)] at this
      rw [if_pos (Nat.lt_succ_self _), if_pos (Nat.lt_succ_self _), iV_0 h, iV_0 h]
      exact this
    · have := c3 t ht
      by_cases w : t < i
      · rw [if_pos w, if_pos w] at this
        rw [if_pos (by omega), if_pos (by omega)]; exact this
      · rw [if_neg w, if_neg w] at this
        rw [if_neg (by omega), if_neg (by omega)]; exact this
  · by_cases e : t = i
    · subst e; rw [iV_0 h] at p; omega
    · exact c4 t (by omega) p
/-- a thing is read -/
theorem ic_thing (hn : n ≤ 411) (ht : ∀ i, i < n → tc i = nI (tx i)) (hb : ∀ i, i < n → tx i < 256) {i : Nat} (hi : i < 40) (h : ¬ tx (iP tx i) = 0) (h10 : iP tx i + 10 < n) {th mk : Int64} {sz ag tr ca pl : Nat → Int32} (C : iCs tx i th mk sz ag tr ca pl) : ∃ th' mk' sz' ag' tr' ca' pl', mX6_readThing 1600 (nI (iP tx i)) (nI i) tc th mk sz ag tr ca pl = (decide (tx (iP tx i + 4) ≤ 99 ∧ tx (iP tx i + 5) ≤ 1), th', mk', sz', ag', tr', ca', pl') ∧ iCs tx (i + 1) th' mk' sz' ag' tr' ca' pl' := by
  obtain ⟨c1, c2, c3, c4⟩ := C
  have at0 : mX11_at 1600 (nI (iP tx i)) tc = nI (tx (iP tx i)) := by rw [s_at 1600 _ (by omega) (by decide), ht _ (by omega)]
  have at' : ∀ a, a ≤ 9 → mX11_at 1600 (nI (iP tx i) + nI a) tc = nI (tx (iP tx i + a)) := fun a ha => by rw [nI_add, s_at 1600 _ (by omega) (by decide), ht _ (by omega)]
  have a1 : mX11_at 1600 (nI (iP tx i) + 1) tc = _ := at' 1 (by decide)
  have a2 : mX11_at 1600 (nI (iP tx i) + 2) tc = _ := at' 2 (by decide)
  have a3 : mX11_at 1600 (nI (iP tx i) + 3) tc = _ := at' 3 (by decide)
  have a4 : mX11_at 1600 (nI (iP tx i) + 4) tc = _ := at' 4 (by decide)
  have a5 : mX11_at 1600 (nI (iP tx i) + 5) tc = _ := at' 5 (by decide)
  have b4 := hb (iP tx i + 4) (by omega)
  have b5 := hb (iP tx i + 5) (by omega)
  have st : ∀ (s0 : Int64), zh (mk ||| s0) (fun t => decide (t < i + 1 ∧ iV tx 5 t = 1)) → ∃ th' mk' sz' ag' tr' ca' pl', mX6_readThing_102 1600 (nI (iP tx i)) tc mk s0 (th ||| mX11_bit (nI i)) (upd sz i (nI (tx (iP tx i)))) (upd (upd ag i 0) i (nI (tx (iP tx i + 4)))) (upd tr i (nI (tx (iP tx i + 1)))) (upd ca i (nI (tx (iP tx i + 2)))) (upd pl i (nI (tx (iP tx i + 3)))) = (decide (tx (iP tx i + 4) ≤ 99 ∧ tx (iP tx i + 5) ≤ 1), th', mk', sz', ag', tr', ca', pl') ∧ iCs tx (i + 1) th' mk' sz' ag' tr' ca' pl' := by
    intro s0 hz
    refine ⟨th ||| mX11_bit (nI i), mk ||| s0, upd sz i (nI (tx (iP tx i))), upd (upd ag i 0) i (nI (tx (iP tx i + 4))), upd tr i (nI (tx (iP tx i + 1))), upd ca i (nI (tx (iP tx i + 2))), upd pl i (nI (tx (iP tx i + 3))), ?_, zh_ins hi c1 (fun t _ => ?_), hz, fun t ht' => ?_, fun t ht' p => ?_⟩
    · unfold mX6_readThing_102
      rw [a4, a5]
      by_cases q1 : tx (iP tx i + 4) ≤ 99
      · rw [if_neg (show ¬ (99 : Int32) < nI (tx (iP tx i + 4)) from nI_nlt (a := 99) q1 (by decide))]
        by_cases q2 : tx (iP tx i + 5) ≤ 1
        · rw [if_neg (show ¬ (1 : Int32) < nI (tx (iP tx i + 5)) from nI_nlt (a := 1) q2 (by decide)), decide_eq_true ⟨q1, q2⟩]
        · rw [if_pos (show (1 : Int32) < nI (tx (iP tx i + 5)) from nI_lt (a := 1) (by omega) (by omega)), decide_eq_false (fun q => q2 q.2)]
      · rw [if_pos (show (99 : Int32) < nI (tx (iP tx i + 4)) from nI_lt (a := 99) (by omega) (by omega)), decide_eq_false (fun q => q1 q.1)]
    · rw [Bool.eq_iff_iff, Bool.or_eq_true, decide_eq_true_eq, decide_eq_true_eq, decide_eq_true_eq, lt_si]
      constructor
      · rintro (q | q)
        · exact Or.inl q
        · exact Or.inr q.1
      · rintro (q | q)
        · exact Or.inl q
        · refine Or.inr ⟨q, ?_⟩
          rw [q, iV_1 h]
          show 0 < tx (iP tx i)
          omega
    · by_cases e : t = i
      · subst e
        rw [pk_us, pk_us, if_pos (Nat.lt_succ_self _), if_pos (Nat.lt_succ_self _), iV_1 h, iV_1 h]
        exact ⟨rfl, rfl⟩
      · rw [pk_un e, pk_un e, pk_un e]
        have := c3 t ht'
        by_cases w : t < i
        · rw [if_pos w, if_pos w] at this
          rw [if_pos (by omega), if_pos (by omega)]; exact this
        · rw [if_neg w, if_neg w] at this
          rw [if_neg (by omega), if_neg (by omega)]; exact this
    · by_cases e : t = i
      · subst e
        rw [pk_us, pk_us, pk_us, iV_1 h, iV_1 h, iV_1 h]
        exact ⟨rfl, rfl, rfl⟩
      · rw [pk_un e, pk_un e, pk_un e]
        exact c4 t (by omega) p
  unfold mX6_readThing mX10_add
  rw [at0, a1, a2, a3, a4, a5]
  simp only [xlet_eq]
  rw [s_put 40 i hi (by decide), s_put 40 i hi (by decide), s_put 40 i hi (by decide), s_put 40 i hi (by decide), s_put 40 i hi (by decide)]
  simp only [xu_q]
  rw [s_put 40 i hi (by decide)]
  by_cases m1 : tx (iP tx i + 5) = 1
  · rw [if_pos (show nI (tx (iP tx i + 5)) = 1 by rw [m1]; rfl)]
    refine st _ (zh_ins hi c2 (fun t _ => ?_))
    rw [Bool.eq_iff_iff, Bool.or_eq_true, decide_eq_true_eq, decide_eq_true_eq, decide_eq_true_eq, lt_si]
    constructor
    · rintro (q | q)
      · exact Or.inl q
      · exact Or.inr q.1
    · rintro (q | q)
      · exact Or.inl q
      · refine Or.inr ⟨q, ?_⟩
        rw [q, iV_1 h]
        exact m1
  · rw [if_neg (show ¬ nI (tx (iP tx i + 5)) = 1 from fun q => m1 ((nI_eq (b := 1) (by omega) (by decide)).mp q))]
    refine st _ (zh_cong (zh_or c2 zh_0) (fun t _ => ?_))
    rw [Bool.or_false, decide_eq_decide, lt_si]
    refine ⟨Or.inl, fun q => q.resolve_right (fun y => ?_)⟩
    rw [y.1, iV_1 h] at y
    exact m1 y.2
theorem ic_loop (hn : n ≤ 411) (ht : ∀ i, i < n → tc i = nI (tx i)) (hb : ∀ i, i < n → tx i < 256) (hU : U ≤ 99) (tn : Int32) (lk rt cs : Nat → Int32) (fr : Nat → Int64) : ∀ k i (th mk : Int64) (sz ag tr ca pl : Nat → Int32), i + k = 40 → iCs tx i th mk sz ag tr ca pl →
    ((iP tx 40 < n ∧ ∀ j, i ≤ j → j < 40 → iOk tx n U j) ∧ ∃ th' mk' sz' ag' tr' ca' pl', mX6_read_79 1600 (nI n) (nI U) tc k i (nI (iP tx i)) 1 th mk tn sz ag tr ca pl lk rt cs fr = mX6_read_160 1600 (nI n) (nI U) tc (nI (iP tx 40)) 1 th' mk' tn sz' ag' tr' ca' pl' lk rt cs fr ∧ iCs tx 40 th' mk' sz' ag' tr' ca' pl') ∨
    (¬ (iP tx 40 < n ∧ ∀ j, i ≤ j → j < 40 → iOk tx n U j) ∧ ∃ s : CB, mX6_read_79 1600 (nI n) (nI U) tc k i (nI (iP tx i)) 1 th mk tn sz ag tr ca pl lk rt cs fr = (false, s)) := by
  intro k
  induction k with
  | zero =>
    intro i th mk sz ag tr ca pl hi C
    have : i = 40 := by omega
    subst this
    by_cases h : iP tx 40 < n
    · exact Or.inl ⟨⟨h, fun j h1 h2 => by omega⟩, th, mk, sz, ag, tr, ca, pl, by rw [mX6_read_79], C⟩
    · have := iP_le (tx := tx) 40
      exact Or.inr ⟨fun q => h q.1, ic_late hn 0 40 _ (by omega) (by omega) 1 th mk tn sz ag tr ca pl lk rt cs fr⟩
  | succ k ih =>
    intro i th mk sz ag tr ca pl hi C
    have hi40 : i < 40 := by omega
    have pl1 := iP_le (tx := tx) i
    have up : iP tx (i + 1) ≤ iP tx 40 := by have := iP_up (tx := tx) (i + 1) k; rw [show i + 1 + k = 40 by omega] at this; exact this
    by_cases hp : iP tx i < n
    · have more : iOk tx n U i → ((iP tx 40 < n ∧ ∀ j, i + 1 ≤ j → j < 40 → iOk tx n U j) ↔ (iP tx 40 < n ∧ ∀ j, i ≤ j → j < 40 → iOk tx n U j)) := fun h => ⟨fun q => ⟨q.1, fun j h1 h2 => by
          by_cases e : j = i
          · subst e; exact h
          · exact q.2 j (by omega) h2⟩, fun q => ⟨q.1, fun j h1 h2 => q.2 j (by omega) h2⟩⟩
      have at0 : mX11_at 1600 (nI (iP tx i)) tc = nI (tx (iP tx i)) := by rw [s_at 1600 _ (by omega) (by decide), ht _ hp]
      have b0 := hb _ hp
      rw [mX6_read_79, if_neg (show ¬ (1 : Int32) = 0 by decide), at0]
      by_cases z : tx (iP tx i) = 0
      · rw [if_pos (show nI (tx (iP tx i)) = 0 by rw [z]; rfl), ← more (Or.inl z)]
        unfold mX6_read_138
        rw [at0, if_pos (show nI (tx (iP tx i)) = 0 by rw [z]; rfl), nI_1, show iP tx i + 1 = iP tx (i + 1) by rw [iP, if_pos z]]
        exact ih (i + 1) th mk sz ag tr ca pl (by omega) (iCs_0 hi40 z C)
      · have nz : ¬ nI (tx (iP tx i)) = 0 := nI_ne0 (by omega) (by omega)
        have e10 : nI (iP tx i) + 10 = nI (iP tx i + 10) := by rw [show (10 : Int32) = nI 10 from rfl, nI_add]
        rw [if_neg nz, e10]
        have out : ¬ iOk tx n U i → ∀ (th mk : Int64) (sz ag tr ca pl : Nat → Int32), ((iP tx 40 < n ∧ ∀ j, i ≤ j → j < 40 → iOk tx n U j) ∧ ∃ th' mk' sz' ag' tr' ca' pl', mX6_read_135 1600 tc (nI (iP tx i)) cs fr lk rt tn (fun zx4_79 zx5_79 zy_f_there_79 zy_f_marked_79 zy_f_trains_79 zy_a_size_79 zy_a_age_79 zy_a_train_79 zy_a_car_79 zy_a_place_79 zy_a_links_79 zy_a_roots_79 zy_a_cars_79 zy_a_from_79 => mX6_read_79 1600 (nI n) (nI U) tc k (i + 1) zx4_79 zx5_79 zy_f_there_79 zy_f_marked_79 zy_f_trains_79 zy_a_size_79 zy_a_age_79 zy_a_train_79 zy_a_car_79 zy_a_place_79 zy_a_links_79 zy_a_roots_79 zy_a_cars_79 zy_a_from_79) th mk sz ag tr ca pl = mX6_read_160 1600 (nI n) (nI U) tc (nI (iP tx 40)) 1 th' mk' tn sz' ag' tr' ca' pl' lk rt cs fr ∧ iCs tx 40 th' mk' sz' ag' tr' ca' pl') ∨
            (¬ (iP tx 40 < n ∧ ∀ j, i ≤ j → j < 40 → iOk tx n U j) ∧ ∃ s : CB, mX6_read_135 1600 tc (nI (iP tx i)) cs fr lk rt tn (fun zx4_79 zx5_79 zy_f_there_79 zy_f_marked_79 zy_f_trains_79 zy_a_size_79 zy_a_age_79 zy_a_train_79 zy_a_car_79 zy_a_place_79 zy_a_links_79 zy_a_roots_79 zy_a_cars_79 zy_a_from_79 => mX6_read_79 1600 (nI n) (nI U) tc k (i + 1) zx4_79 zx5_79 zy_f_there_79 zy_f_marked_79 zy_f_trains_79 zy_a_size_79 zy_a_age_79 zy_a_train_79 zy_a_car_79 zy_a_place_79 zy_a_links_79 zy_a_roots_79 zy_a_cars_79 zy_a_from_79) th mk sz ag tr ca pl = (false, s)) := by
          intro no th mk sz ag tr ca pl
          refine Or.inr ⟨fun q => no (q.2 i (Nat.le_refl _) hi40), ?_⟩
          unfold mX6_read_135 mX6_read_136 mX6_read_138
          rw [at0, if_neg nz]
          exact ic_0 k (i + 1) _ th mk tn sz ag tr ca pl lk rt cs fr
        by_cases h10 : iP tx i + 10 < n
        · rw [if_pos (nI_lt h10 (by omega))]
          by_cases hu : tx (iP tx i) ≤ U
          · rw [if_neg (nI_nlt hu (by omega))]
            obtain ⟨th', mk', sz', ag', tr', ca', pl', e, C'⟩ := ic_thing hn ht hb hi40 z h10 C
            rw [e, xlet_eq]
            simp only [xu_q]
            by_cases ok : tx (iP tx i + 4) ≤ 99 ∧ tx (iP tx i + 5) ≤ 1
            · rw [decide_eq_true ok, if_pos rfl, ← more (Or.inr ⟨h10, hu, ok⟩)]
              unfold mX6_read_136 mX6_read_138
              rw [at0, if_neg nz, e10, show iP tx i + 10 = iP tx (i + 1) by rw [iP, if_neg z]]
              exact ih (i + 1) th' mk' sz' ag' tr' ca' pl' (by omega) C'
            · rw [decide_eq_false ok, if_neg (by decide)]
              exact out (fun q => by
                rcases q with q | q
                · exact z q
                · exact ok q.2.2) th' mk' sz' ag' tr' ca' pl'
          · rw [if_pos (nI_lt (by omega) (by omega))]
            exact out (fun q => by
                rcases q with q | q
                · exact z q
                · exact hu q.2.1) th mk sz ag tr ca pl
        · rw [if_neg (nI_nlt (by omega) (by omega))]
          exact out (fun q => by
                rcases q with q | q
                · exact z q
                · exact h10 q.1) th mk sz ag tr ca pl
    · have : iP tx i ≤ iP tx (i + 1) := iP_up (tx := tx) i 1
      exact Or.inr ⟨fun q => by have := q.1; omega, ic_late hn (k + 1) i _ (by omega) (by omega) 1 th mk tn sz ag tr ca pl lk rt cs fr⟩
end IA
