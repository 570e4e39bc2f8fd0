def bnz (o : Nat) : Int32 := if o = 0 then -1 else nI o
section ZL
theorem s_trainNow (v : Nat) (hv : v < 22) (tr : Nat → Int32) (st : Nat → Int32) (sT : Nat → Int32) (t : Nat) (ht : t < 40) : mX12_trainNow (nI v) (nI t) tr st sT = some (if st t = 1 then sT t else tr (40 * v + t)) := by
  unfold mX12_trainNow
  rw [zb_t v t hv ht, zc_t v t hv ht, zb t 40 ht (by decide), zc t (by omega)]
  simp only [if_true]
  split <;> rfl
theorem s_isWaiting (v : Nat) (hv : v < 22) (sz : Nat → Int32) (tr : Nat → Int32) (ca : Nat → Int32) (st : Nat → Int32) (t : Nat) (ht : t < 40) : mX12_isWaiting (nI v) (nI t) sz tr ca st = some (decide (0 < sz (40 * v + t) ∧ tr (40 * v + t) = 0 ∧ ca (40 * v + t) = 0 ∧ st t = 0)) := by
  unfold mX12_isWaiting
  rw [s_isIn v hv sz tr ca t ht, zb t 40 ht (by decide), zc t (by omega)]
  simp only [Option.bind_some, if_true]
  by_cases h1 : 0 < sz (40 * v + t) <;> by_cases h2 : tr (40 * v + t) = 0 <;> by_cases h3 : ca (40 * v + t) = 0 <;> by_cases h4 : st t = 0 <;> simp [h1, h2, h3, h4]
theorem s_areTogether (v : Nat) (hv : v < 22) (tr : Nat → Int32) (ca : Nat → Int32) (st : Nat → Int32) (a b : Nat) (ha : a < 40) (hb : b < 40) : mX12_areTogether (nI v) (nI a) (nI b) tr ca st = some (decide (st a = st b ∧ (st a = 1 ∨ (tr (40 * v + a) = tr (40 * v + b) ∧ ca (40 * v + a) = ca (40 * v + b))))) := by
  unfold mX12_areTogether
  rw [zb_t v a hv ha, zc_t v a hv ha, zb_t v b hv hb, zc_t v b hv hb, zb a 40 ha (by decide), zc a (by omega), zb b 40 hb (by decide), zc b (by omega)]
  simp only [if_true]
  by_cases h1 : st a = st b
  · rw [if_pos h1]
    by_cases h2 : st a = 1
    · rw [if_pos h2]; simp [h1, h2]
      rw [← h1]; exact Or.inl h2
    · rw [if_neg h2]
      by_cases h3 : tr (40 * v + a) = tr (40 * v + b)
      · rw [if_pos h3]
        by_cases h4 : ca (40 * v + a) = ca (40 * v + b)
        · rw [if_pos h4]; simp [h1, h3, h4]
        · rw [if_neg h4]
          have : ¬ (st a = st b ∧ (st a = 1 ∨ (tr (40 * v + a) = tr (40 * v + b) ∧ ca (40 * v + a) = ca (40 * v + b)))) := fun q => q.2.elim h2 (fun z => h4 z.2)
          rw [decide_eq_false this]
      · rw [if_neg h3]
        have : ¬ (st a = st b ∧ (st a = 1 ∨ (tr (40 * v + a) = tr (40 * v + b) ∧ ca (40 * v + a) = ca (40 * v + b)))) := fun q => q.2.elim h2 (fun z => h3 z.1)
        rw [decide_eq_false this]
  · rw [if_neg h1]
    have : ¬ (st a = st b ∧ (st a = 1 ∨ (tr (40 * v + a) = tr (40 * v + b) ∧ ca (40 * v + a) = ca (40 * v + b)))) := fun q => h1 q.1
    rw [decide_eq_false this]
theorem s_refsOf_79 (v : Nat) (hv : v < 22) (lk : Nat → Int32) (u : Nat) (hu : u < 40) (t : Int32) (K : Int32 → Option Int32) (x : Nat) : ∀ (k i : Nat), i + k = 4 → mX12_refsOf_79 (nI v) t lk u K k i (nI (x + fb_ct (fun r => decide (lk (4 * (40 * v + u) + r) = t)) i)) = K (nI (x + fb_ct (fun r => decide (lk (4 * (40 * v + u) + r) = t)) 4)) := by
  intro k
  induction k with
  | zero => intro i h; rw [show i = 4 by omega]; rfl
  | succ k ih =>
    intro i h
    have ihi := ih (i + 1) (by omega)
    rw [fb_ct_succ] at ihi
    rw [mX12_refsOf_79, zb_l v u i hv hu (by omega), zc_l v u i hv hu (by omega)]
    simp only [if_true]
    by_cases h1 : lk (4 * (40 * v + u) + i) = t
    · rw [if_pos h1, nI_1]
      rw [if_pos (decide_eq_true h1)] at ihi
      exact ihi
    · rw [if_neg h1, Int32.add_zero]
      rw [if_neg (by simpa using h1)] at ihi
      exact ihi
theorem s_refsOf_45 (v : Nat) (hv : v < 22) (sz : Nat → Int32) (tr : Nat → Int32) (ca : Nat → Int32) (lk : Nat → Int32) (st : Nat → Int32) (t : Nat) (ht : t < 40) (x : Nat) : ∀ (k i : Nat), i + k = 40 → mX12_refsOf_45 (nI v) (nI t) sz tr ca lk st k i (nI (x + fb_sm (fun u => if 0 < sz (40 * v + u) ∧ ¬ (st u = st t ∧ (st u = 1 ∨ (tr (40 * v + u) = tr (40 * v + t) ∧ ca (40 * v + u) = ca (40 * v + t)))) then fb_ct (fun r => decide (lk (4 * (40 * v + u) + r) = nI t)) 4 else 0) i)) = some (nI (x + fb_sm (fun u => if 0 < sz (40 * v + u) ∧ ¬ (st u = st t ∧ (st u = 1 ∨ (tr (40 * v + u) = tr (40 * v + t) ∧ ca (40 * v + u) = ca (40 * v + t)))) then fb_ct (fun r => decide (lk (4 * (40 * v + u) + r) = nI t)) 4 else 0) 40)) := by
  intro k
  induction k with
  | zero => intro i h; rw [show i = 40 by omega]; rfl
  | succ k ih =>
    intro i h
    have hi : i < 40 := by omega
    have ihi := ih (i + 1) (by omega)
    rw [fb_sm_succ] at ihi
    generalize hS : fb_sm _ i = S at ihi ⊢
    rw [mX12_refsOf_45, s_isThere v hv sz i hi]
    simp only [Option.bind_some, decide_eq_true_eq]
    by_cases h1 : 0 < sz (40 * v + i)
    · rw [if_pos h1, s_areTogether v hv tr ca st i t hi ht]
      simp only [Option.bind_some, decide_eq_true_eq]
      by_cases h2 : st i = st t ∧ (st i = 1 ∨ (tr (40 * v + i) = tr (40 * v + t) ∧ ca (40 * v + i) = ca (40 * v + t)))
      · rw [if_pos h2]
        rw [if_neg (fun q => q.2 h2)] at ihi
        exact ihi
      · rw [if_neg h2]
        rw [if_pos ⟨h1, h2⟩, ← Nat.add_assoc] at ihi
        exact (s_refsOf_79 v hv lk i hi (nI t) (fun zx3_45 => mX12_refsOf_45 (nI v) (nI t) sz tr ca lk st k (i + 1) zx3_45) (x + S) 4 0 rfl).trans ihi
    · rw [if_neg h1]
      rw [if_neg (fun q => h1 q.1)] at ihi
      exact ihi
theorem s_refsOf_5 (v : Nat) (hv : v < 22) (sz : Nat → Int32) (tr : Nat → Int32) (ca : Nat → Int32) (lk : Nat → Int32) (rt : Nat → Int32) (st : Nat → Int32) (t : Nat) (ht : t < 40) : ∀ (k i : Nat), i + k = 8 → mX12_refsOf_5 (nI v) (nI t) sz tr ca lk rt st k i (nI (fb_ct (fun r => decide (rt (8 * v + r) = nI t)) i)) = mX12_refsOf_45 (nI v) (nI t) sz tr ca lk st 40 0 (nI (fb_ct (fun r => decide (rt (8 * v + r) = nI t)) 8)) := by
  intro k
  induction k with
  | zero => intro i h; rw [show i = 8 by omega]; rfl
  | succ k ih =>
    intro i h
    have ihi := ih (i + 1) (by omega)
    rw [fb_ct_succ] at ihi
    rw [mX12_refsOf_5, zb_r v i hv (by omega), zc_r v i hv (by omega)]
    simp only [if_true]
    by_cases h1 : rt (8 * v + i) = nI t
    · rw [if_pos h1, nI_1]
      rw [if_pos (decide_eq_true h1)] at ihi
      exact ihi
    · rw [if_neg h1, Int32.add_zero]
      rw [if_neg (by simpa using h1)] at ihi
      exact ihi
theorem s_refsOf (v : Nat) (hv : v < 22) (sz : Nat → Int32) (tr : Nat → Int32) (ca : Nat → Int32) (lk : Nat → Int32) (rt : Nat → Int32) (st : Nat → Int32) (t : Nat) (ht : t < 40) : mX12_refsOf (nI v) (nI t) sz tr ca lk rt st = some (nI (fb_ct (fun r => decide (rt (8 * v + r) = nI t)) 8 + fb_sm (fun u => if 0 < sz (40 * v + u) ∧ ¬ (st u = st t ∧ (st u = 1 ∨ (tr (40 * v + u) = tr (40 * v + t) ∧ ca (40 * v + u) = ca (40 * v + t)))) then fb_ct (fun r => decide (lk (4 * (40 * v + u) + r) = nI t)) 4 else 0) 40)) := by
  unfold mX12_refsOf
  have e := s_refsOf_5 v hv sz tr ca lk rt st t ht 8 0 rfl
  rw [show nI (fb_ct (fun r => decide (rt (8 * v + r) = nI t)) 0) = 0 from rfl] at e
  rw [e]
  exact s_refsOf_45 v hv sz tr ca lk st t ht _ 40 0 rfl
/-- the first train but 0 from which one calls; 0 if none -/
def bcl (q : Nat → Bool) (T : Nat → Nat) : Nat → Nat
  | 0 => 0
  | n + 1 => if q n = true ∧ T n ≠ 0 ∧ (bcl q T n = 0 ∨ T n < bcl q T n) then T n else bcl q T n
theorem bcl_succ (q : Nat → Bool) (T : Nat → Nat) (n : Nat) : bcl q T (n + 1) = if q n = true ∧ T n ≠ 0 ∧ (bcl q T n = 0 ∨ T n < bcl q T n) then T n else bcl q T n := rfl
theorem bcl_lt {q : Nat → Bool} {T : Nat → Nat} {B : Nat} (hB : 0 < B) : ∀ {n : Nat}, (∀ u, u < n → q u = true → T u < B) → bcl q T n < B := by
  intro n
  induction n with
  | zero => intro _; exact hB
  | succ n ih =>
    intro h
    rw [bcl_succ]
    split
    · rename_i hc; exact h n (by omega) hc.1
    · exact ih (fun u hu => h u (by omega))
theorem bcl_le {q : Nat → Bool} {T : Nat → Nat} : ∀ {n u : Nat}, u < n → q u = true → T u ≠ 0 → bcl q T n ≠ 0 ∧ bcl q T n ≤ T u := by
  intro n
  induction n with
  | zero => intro u h; omega
  | succ n ih =>
    intro u hu hq hT
    rw [bcl_succ]
    by_cases e : u = n
    · subst e
      split
      · exact ⟨hT, Nat.le_refl _⟩
      · rename_i hc
        by_cases h0 : bcl q T u = 0
        · exact absurd ⟨hq, hT, Or.inl h0⟩ hc
        · refine ⟨h0, ?_⟩
          by_cases h1 : T u < bcl q T u
          · exact absurd ⟨hq, hT, Or.inr h1⟩ hc
          · omega
    · obtain ⟨a, b⟩ := ih (show u < n by omega) hq hT
      split
      · rename_i hc
        refine ⟨hc.2.1, ?_⟩
        rcases hc.2.2 with h | h
        · exact absurd h a
        · omega
      · exact ⟨a, b⟩
theorem bcl_at {q : Nat → Bool} {T : Nat → Nat} : ∀ {n : Nat}, bcl q T n ≠ 0 → ∃ u, u < n ∧ q u = true ∧ T u = bcl q T n := by
  intro n
  induction n with
  | zero => intro h; exact absurd rfl h
  | succ n ih =>
    rw [bcl_succ]
    intro h
    split
    · rename_i hc; exact ⟨n, by omega, hc.1, rfl⟩
    · rename_i hc
      rw [if_neg hc] at h
      obtain ⟨u, a, b, c⟩ := ih h
      exact ⟨u, by omega, b, c⟩
theorem s_calling_5 (v : Nat) (hv : v < 22) (sz : Nat → Int32) (tr : Nat → Int32) (lk : Nat → Int32) (st : Nat → Int32) (sT : Nat → Int32) (t : Int32) (T : Nat → Nat) (hT : ∀ u, u < 40 → 0 < sz (40 * v + u) → (if st u = 1 then sT u else tr (40 * v + u)) = nI (T u) ∧ T u < 1000) : ∀ (k i : Nat), i + k = 40 → mX12_calling_5 (nI v) t sz tr lk st sT k i (bnz (bcl (fun u => decide (0 < sz (40 * v + u) ∧ bhas (fun r => lk (4 * (40 * v + u) + r)) 4 t = true)) T i)) = some (bnz (bcl (fun u => decide (0 < sz (40 * v + u) ∧ bhas (fun r => lk (4 * (40 * v + u) + r)) 4 t = true)) T 40)) := by
  intro k
  induction k with
  | zero => intro i h; rw [show i = 40 by omega]; rfl
  | succ k ih =>
    intro i h
    have hi : i < 40 := by omega
    have hB : bcl (fun u => decide (0 < sz (40 * v + u) ∧ bhas (fun r => lk (4 * (40 * v + u) + r)) 4 t = true)) T i < 1000 := bcl_lt (by decide) (fun u hu hq => (hT u (by omega) (of_decide_eq_true hq).1).2)
    have ihi := ih (i + 1) (by omega)
    rw [bcl_succ] at ihi
    revert ihi hB
    generalize bcl (fun u => decide (0 < sz (40 * v + u) ∧ bhas (fun r => lk (4 * (40 * v + u) + r)) 4 t = true)) T i = B
    intro hB ihi
    rw [mX12_calling_5, s_isThere v hv sz i hi]
    simp only [Option.bind_some, decide_eq_true_eq]
    by_cases h1 : 0 < sz (40 * v + i)
    · rw [if_pos h1, s_isLinked v hv lk i hi t]
      simp only [Option.bind_some, decide_eq_true_eq]
      by_cases h2 : bhas (fun r => lk (4 * (40 * v + i) + r)) 4 t = true
      · rw [if_pos h2, s_trainNow v hv tr st sT i hi]
        obtain ⟨e1, e2⟩ := hT i hi h1
        rw [e1]
        simp only [Option.bind_some]
        by_cases h3 : T i = 0
        · rw [if_pos (by rw [h3]; rfl)]
          rw [if_neg (fun q => q.2.1 h3)] at ihi
          exact ihi
        · rw [if_neg (nI_ne0 (by omega) (by omega))]
          by_cases h4 : B = 0
          · subst h4
            rw [show bnz 0 = -1 from rfl, if_pos rfl]
            rw [if_pos ⟨decide_eq_true ⟨h1, h2⟩, h3, Or.inl rfl⟩] at ihi
            rw [show bnz (T i) = nI (T i) by simp [bnz, h3]] at ihi
            exact ihi
          · have eB : bnz B = nI B := by simp [bnz, h4]
            rw [eB, if_neg (nI_m1 (by omega))]
            by_cases h5 : T i < B
            · rw [if_pos (nI_lt h5 (by omega))]
              rw [if_pos ⟨decide_eq_true ⟨h1, h2⟩, h3, Or.inr h5⟩] at ihi
              rw [show bnz (T i) = nI (T i) by simp [bnz, h3]] at ihi
              exact ihi
            · rw [if_neg (nI_nlt (by omega) (by omega))]
              rw [if_neg (fun q => q.2.2.elim h4 h5), eB] at ihi
              exact ihi
      · rw [if_neg h2]
        rw [if_neg (fun q => h2 (of_decide_eq_true q.1).2)] at ihi
        exact ihi
    · rw [if_neg h1]
      rw [if_neg (fun q => h1 (of_decide_eq_true q.1).1)] at ihi
      exact ihi
theorem s_calling (v : Nat) (hv : v < 22) (sz : Nat → Int32) (tr : Nat → Int32) (lk : Nat → Int32) (st : Nat → Int32) (sT : Nat → Int32) (t : Int32) (T : Nat → Nat) (hT : ∀ u, u < 40 → 0 < sz (40 * v + u) → (if st u = 1 then sT u else tr (40 * v + u)) = nI (T u) ∧ T u < 1000) : mX12_calling (nI v) t sz tr lk st sT = some (bnz (bcl (fun u => decide (0 < sz (40 * v + u) ∧ bhas (fun r => lk (4 * (40 * v + u) + r)) 4 t = true)) T 40)) :=
  s_calling_5 v hv sz tr lk st sT t T hT 40 0 rfl
theorem s_isCalledBeside_2 (v : Nat) (hv : v < 22) (sz : Nat → Int32) (tr : Nat → Int32) (ca : Nat → Int32) (lk : Nat → Int32) (st : Nat → Int32) (sT : Nat → Int32) (t : Int32) : ∀ (k i : Nat), i + k = 40 → mX12_isCalledBeside_2 (nI v) t sz tr ca lk st sT k i = some (bex (fun u => decide (0 < sz (40 * v + u) ∧ (bhas (fun r => lk (4 * (40 * v + u) + r)) 4 t = true) ∧ (if st u = 1 then sT u else tr (40 * v + u)) = 0 ∧ ¬ (tr (40 * v + u) = 0 ∧ ca (40 * v + u) = 0 ∧ st u = 0))) k i) := by
  intro k
  induction k with
  | zero => intro i _; rfl
  | succ k ih =>
    intro i h
    have hi : i < 40 := by omega
    rw [mX12_isCalledBeside_2, s_isThere v hv sz i hi, bex, ih (i + 1) (by omega)]
    simp only [Option.bind_some, decide_eq_true_eq]
    by_cases h1 : 0 < sz (40 * v + i)
    · rw [if_pos h1, s_isLinked v hv lk i hi t]
      simp only [Option.bind_some, decide_eq_true_eq]
      by_cases h2 : bhas (fun r => lk (4 * (40 * v + i) + r)) 4 t = true
      · rw [if_pos h2, s_trainNow v hv tr st sT i hi]
        simp only [Option.bind_some]
        by_cases h3 : (if st i = 1 then sT i else tr (40 * v + i)) = 0
        · rw [if_pos h3, s_isWaiting v hv sz tr ca st i hi]
          simp only [Option.bind_some, decide_eq_true_eq]
          by_cases h4 : 0 < sz (40 * v + i) ∧ tr (40 * v + i) = 0 ∧ ca (40 * v + i) = 0 ∧ st i = 0
          · rw [if_pos h4, decide_eq_false (fun q => q.2.2.2 h4.2), Bool.false_or]
          · rw [if_neg h4, decide_eq_true ⟨h1, h2, h3, fun q => h4 ⟨h1, q⟩⟩, Bool.true_or]
        · rw [if_neg h3, decide_eq_false (fun q => h3 q.2.2.1), Bool.false_or]
      · rw [if_neg h2, decide_eq_false (fun q => h2 q.2.1), Bool.false_or]
    · rw [if_neg h1, decide_eq_false (fun q => h1 q.1), Bool.false_or]
theorem s_isCalledBeside (v : Nat) (hv : v < 22) (sz : Nat → Int32) (tr : Nat → Int32) (ca : Nat → Int32) (lk : Nat → Int32) (st : Nat → Int32) (sT : Nat → Int32) (t : Int32) : mX12_isCalledBeside (nI v) t sz tr ca lk st sT = some (bex (fun u => decide (0 < sz (40 * v + u) ∧ (bhas (fun r => lk (4 * (40 * v + u) + r)) 4 t = true) ∧ (if st u = 1 then sT u else tr (40 * v + u)) = 0 ∧ ¬ (tr (40 * v + u) = 0 ∧ ca (40 * v + u) = 0 ∧ st u = 0))) 40 0) := by
  unfold mX12_isCalledBeside
  rw [s_isCalledBeside_2 v hv sz tr ca lk st sT t 40 0 rfl]
theorem s_lays (v : Nat) (hv : v < 22) (sz : Nat → Int32) (tr : Nat → Int32) (ca : Nat → Int32) (pl : Nat → Int32) (a : Nat) (ha : a < 40) (w : Nat) (hw : w < 1000) (b U : Nat) (hb : b < 2) (ut : Nat → Int32) (hU : ut b = nI U) (hU2 : U < 1000) (s c : Nat → Nat) (hs : ∀ t, t < 40 → sz (40 * v + t) = nI (s t)) (hs2 : ∀ t, t < 40 → s t < 1000)
    (hc : ∀ t, t < 40 → 0 < s t → t ≠ a → tr (40 * v + t) = nI w → ca (40 * v + t) = nI (c t) ∧ c t < 1000) :
    mX12_lays (nI v) (nI a) (nI w) (nI b) ut sz tr ca pl =
      (let n := bmx (fun t => decide (0 < s t ∧ t ≠ a ∧ tr (40 * v + t) = nI w)) c 40
       let p := fun t => decide (0 < s t ∧ t ≠ a ∧ tr (40 * v + t) = nI w ∧ c t + 1 = n)
       let isNew := decide (n = 0 ∨ U < fb_sm (fun t => if p t = true then s t else 0) 40 + s a)
       some (upd tr (40 * v + a) (nI w), upd ca (40 * v + a) (nI (if isNew = true then n else n - 1)), upd pl (40 * v + a) (nI (if isNew = true then 0 else fb_ct p 40)))) := by
  have hu : ∀ t, t < 40 → ((upd tr (40 * v + a) (-1)) (40 * v + t) = nI w ↔ (t ≠ a ∧ tr (40 * v + t) = nI w)) := by
    intro t ht
    by_cases e : t = a
    · subst e
      rw [pk_us]
      constructor
      · intro q; exact absurd q.symm (nI_m1 (by omega))
      · intro q; exact absurd rfl q.1
    · rw [pk_un (by omega)]
      exact ⟨fun q => ⟨e, q⟩, fun q => q.2⟩
  have hpos : ∀ t, t < 40 → (0 < sz (40 * v + t) ↔ 0 < s t) := by
    intro t ht
    rw [hs t ht]
    exact nI_ltI (a := 0) (by decide) (by have := hs2 t ht; omega)
  have eC : mX12_carsOf (nI v) (nI w) sz (upd tr (40 * v + a) (-1)) ca = some (nI (bmx (fun t => decide (0 < s t ∧ t ≠ a ∧ tr (40 * v + t) = nI w)) c 40)) := by
    rw [s_carsOf v hv sz (upd tr (40 * v + a) (-1)) ca (nI w) c (fun t ht h1 h2 => hc t ht ((hpos t ht).mp h1) ((hu t ht).mp h2).1 ((hu t ht).mp h2).2)]
    refine congrArg (fun x => some (nI x)) (bmx_cong (fun t ht => ?_) (fun t ht _ => rfl))
    rw [decide_eq_decide, hpos t ht, hu t ht]
  have hn : bmx (fun t => decide (0 < s t ∧ t ≠ a ∧ tr (40 * v + t) = nI w)) c 40 ≤ 1000 := bmx_le (fun t ht hp => (hc t ht (of_decide_eq_true hp).1 (of_decide_eq_true hp).2.1 (of_decide_eq_true hp).2.2).2)
  unfold mX12_lays
  rw [zb_t v a hv ha, zc_t v a hv ha, eC]
  simp only [Option.bind_some, if_true]
  generalize hN : bmx (fun t => decide (0 < s t ∧ t ≠ a ∧ tr (40 * v + t) = nI w)) c 40 = n at hn
  have L59 : ∀ x : Int32, mX12_lays_59 (nI v) (nI a) (nI w) sz tr ca pl x = some (upd tr (40 * v + a) (nI w), upd ca (40 * v + a) (x + 1), upd pl (40 * v + a) 0) := by
    intro x
    unfold mX12_lays_59 mX12_lays_64
    rw [if_neg (by decide)]
    unfold mX12_lays_80
    rw [if_neg (by decide)]
    unfold mX12_lays_99
    rw [zc_t v a hv ha, fa_upd_twice]
  rcases Nat.eq_zero_or_pos n with h0 | h0
  · subst h0
    rw [if_pos (show nI 0 - 1 < 0 by decide), L59]
    simp only [true_or, decide_true, if_true]
    rfl
  · obtain ⟨m, rfl⟩ : ∃ m, n = m + 1 := ⟨n - 1, by omega⟩
    rw [nI_pred, if_neg (nI_pos (by omega)), s_unitsIn v hv sz (upd tr (40 * v + a) (-1)) ca s hs (nI w) (nI m)]
    have hiff : ∀ t, t < 40 → ((0 < sz (40 * v + t) ∧ upd tr (40 * v + a) (-1) (40 * v + t) = nI w ∧ ca (40 * v + t) = nI m) ↔ (0 < s t ∧ t ≠ a ∧ tr (40 * v + t) = nI w ∧ c t + 1 = m + 1)) := by
      intro t ht
      rw [hpos t ht, hu t ht]
      constructor
      · rintro ⟨x1, ⟨x2, x3⟩, x4⟩
        obtain ⟨y1, y2⟩ := hc t ht x1 x2 x3
        rw [y1, nI_eq (by omega) (by omega)] at x4
        exact ⟨x1, x2, x3, by omega⟩
      · rintro ⟨x1, x2, x3, x4⟩
        obtain ⟨y1, y2⟩ := hc t ht x1 x2 x3
        exact ⟨x1, ⟨x2, x3⟩, by rw [y1]; congr 1; omega⟩
    have eU : fb_sm (fun t => if 0 < sz (40 * v + t) ∧ upd tr (40 * v + a) (-1) (40 * v + t) = nI w ∧ ca (40 * v + t) = nI m then s t else 0) 40 = fb_sm (fun t => if decide (0 < s t ∧ t ≠ a ∧ tr (40 * v + t) = nI w ∧ c t + 1 = m + 1) = true then s t else 0) 40 := by
      refine fb_sm_cong (fun t ht => ?_)
      by_cases q : 0 < s t ∧ t ≠ a ∧ tr (40 * v + t) = nI w ∧ c t + 1 = m + 1
      · rw [if_pos ((hiff t ht).mpr q), if_pos (decide_eq_true q)]
      · rw [if_neg (fun z => q ((hiff t ht).mp z)), if_neg (fun z => q (of_decide_eq_true z))]
    have eT : fb_ct (fun t => decide (0 < sz (40 * v + t) ∧ upd tr (40 * v + a) (-1) (40 * v + t) = nI w ∧ ca (40 * v + t) = nI m)) 40 = fb_ct (fun t => decide (0 < s t ∧ t ≠ a ∧ tr (40 * v + t) = nI w ∧ c t + 1 = m + 1)) 40 := by
      refine fb_ct_cong (fun t ht => ?_)
      rw [decide_eq_decide, hiff t ht]
    have hbd : fb_sm (fun t => if decide (0 < s t ∧ t ≠ a ∧ tr (40 * v + t) = nI w ∧ c t + 1 = m + 1) = true then s t else 0) 40 ≤ 40 * 1000 := by
      refine fb_sm_bound (fun t ht => ?_)
      have := hs2 t ht
      split <;> omega
    simp only [Option.bind_some]
    rw [eU, zb b 2 hb (by decide), zc b (by omega), hU, hs a ha, nI_add]
    simp only [if_true]
    have ha2 := hs2 a ha
    by_cases hlt : U < fb_sm (fun t => if decide (0 < s t ∧ t ≠ a ∧ tr (40 * v + t) = nI w ∧ c t + 1 = m + 1) = true then s t else 0) 40 + s a
    · rw [if_pos (nI_lt hlt (by omega)), L59, nI_1]
      rw [decide_eq_true (Or.inr hlt)]
      rfl
    · rw [if_neg (nI_nlt (by omega) (by omega))]
      unfold mX12_lays_64
      rw [if_pos rfl]
      unfold mX12_lays_80
      rw [if_pos rfl, zc_t v a hv ha, s_thingsIn v hv sz (upd tr (40 * v + a) (-1)) ca (nI w) (nI m), eT]
      simp only [Option.bind_some]
      unfold mX12_lays_99
      rw [zc_t v a hv ha, fa_upd_twice]
      rw [decide_eq_false (fun q => q.elim (by omega) hlt)]
      rfl
end ZL
