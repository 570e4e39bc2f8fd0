def gD (g : Nat → Nat → Nat) (b t : Nat) : Bool := blv (fun x => decide (x = b)) (gLk g) 40 t
theorem gD_self (g : Nat → Nat → Nat) (b : Nat) : gD g b b = true := blv_mono _ _ b (Nat.zero_le 40) (n := 0) (decide_eq_true rfl)
theorem gD_next {g : Nat → Nat → Nat} {b x y : Nat} (hx : x < 40) (hy : y < 40) (h : gD g b x = true) (e : gLk g x y = true) : gD g b y = true :=
  blv_stop _ _ 41 y hy ((blv_succ _ _ 40 y).mpr (Or.inr ⟨x, hx, h, e⟩))
theorem gD_ahead {g : Nat → Nat → Nat} {s x t : Nat} (hs : s < 40) (hx : x < 40) (ht : t < 40) (e : gLk g s x = true) (h : gD g x t = true) : gD g s t = true := by
  refine blv_in (fun y => decide (y = x)) (gLk g) (gD g s) (fun y _ hy => ?_) (fun u y hu hy hs2 he => gD_next hu hy hs2 he) 40 t ht h
  have : y = x := of_decide_eq_true hy
  subst this
  exact gD_next hs hx (gD_self g s) e
theorem gL_next {g : Nat → Nat → Nat} {x y : Nat} (hx : x < 40) (hy : y < 40) (h : gL g x = true) (e : gLk g x y = true) : gL g y = true :=
  blv_stop _ _ 41 y hy ((blv_succ _ _ 40 y).mpr (Or.inr ⟨x, hx, h, e⟩))
theorem gL_root {g : Nat → Nat → Nat} {x : Nat} (h : gRt g x = true) : gL g x = true := blv_mono _ _ x (Nat.zero_le 40) (n := 0) h
theorem gRt_6 (g : Nat → Nat → Nat) (l z x : Nat) : gRt (gset g 6 l z) x = gRt g x := by
  unfold gRt
  refine bex_cong (fun k _ _ => ?_)
  rw [gset_n g z (fun q => absurd q.1 (by decide))]
theorem gLk_60 {g : Nat → Nat → Nat} {l u x : Nat} (h : gLk (gset g 6 l 0) u x = true) : gLk g u x = true := by
  obtain ⟨k, hk, e⟩ := (gLk_iff _ u x).mp h
  refine (gLk_iff g u x).mpr ⟨k, hk, ?_⟩
  by_cases z : 4 * u + k = l
  · rw [z, gset_s] at e; omega
  · rw [gset_n g 0 (fun q => z q.2)] at e; exact e
theorem gLk_6s {g : Nat → Nat → Nat} {l b u x : Nat} : gLk (gset g 6 l (b + 1)) u x = true ↔ gLk (gset g 6 l 0) u x = true ∨ (u = l / 4 ∧ x = b) := by
  rw [gLk_iff, gLk_iff]
  constructor
  · rintro ⟨k, hk, e⟩
    by_cases z : 4 * u + k = l
    · rw [z, gset_s] at e; exact Or.inr ⟨by omega, by omega⟩
    · rw [gset_n g _ (fun q => z q.2)] at e
      exact Or.inl ⟨k, hk, by rw [gset_n g _ (fun q => z q.2)]; exact e⟩
  · rintro (⟨k, hk, e⟩ | ⟨e1, e2⟩)
    · refine ⟨k, hk, ?_⟩
      by_cases z : 4 * u + k = l
      · rw [z, gset_s] at e; omega
      · rw [gset_n g _ (fun q => z q.2)] at e
        rw [gset_n g _ (fun q => z q.2)]; exact e
    · exact ⟨l % 4, by omega, by rw [show 4 * u + l % 4 = l by omega, gset_s]; omega⟩
theorem gL_60 {g : Nat → Nat → Nat} {l x : Nat} (hx : x < 40) (h : gL (gset g 6 l 0) x = true) : gL g x = true :=
  blv_sub (fun t _ q => by rw [gRt_6] at q; exact q) (fun u t _ _ q => gLk_60 q) 40 x hx h
/-- without a link of its own a live one still lives -/
theorem gL_own {g : Nat → Nat → Nat} {l : Nat} (hl : l < 160) (h : gL g (l / 4) = true) : gL (gset g 6 l 0) (l / 4) = true := by
  refine Classical.byContradiction (fun no => no ?_)
  refine blv_in (gRt g) (gLk g) (gL (gset g 6 l 0)) (fun t _ q => gL_root (by rw [gRt_6]; exact q)) (fun u t hu ht hs he => ?_) 40 (l / 4) (by omega) h
  obtain ⟨k, hk, e⟩ := (gLk_iff g u t).mp he
  by_cases z : 4 * u + k = l
  · exact absurd (show gL (gset g 6 l 0) (l / 4) = true by rw [show l / 4 = u by omega]; exact hs) no
  · exact gL_next hu ht hs ((gLk_iff _ u t).mpr ⟨k, hk, by rw [gset_n g 0 (fun q => z q.2)]; exact e⟩)
theorem gL_6s {g : Nat → Nat → Nat} {l b t : Nat} (hl : l < 160) (hb : b < 40) (ht : t < 40) (h : gL g (l / 4) = true) : gL (gset g 6 l (b + 1)) t = (gL (gset g 6 l 0) t || gD (gset g 6 l 0) b t) := by
  rw [Bool.eq_iff_iff, Bool.or_eq_true]
  constructor
  · intro q
    have := blv_in (gRt (gset g 6 l (b + 1))) (gLk (gset g 6 l (b + 1))) (fun x => gL (gset g 6 l 0) x || gD (gset g 6 l 0) b x) (fun x _ hr => by
      rw [gRt_6] at hr
      show (gL (gset g 6 l 0) x || gD (gset g 6 l 0) b x) = true
      rw [gL_root (by rw [gRt_6]; exact hr)]; rfl) (fun u x hu hx hs he => by
      show (gL (gset g 6 l 0) x || gD (gset g 6 l 0) b x) = true
      have hs : (gL (gset g 6 l 0) u || gD (gset g 6 l 0) b u) = true := hs
      rw [Bool.or_eq_true] at hs ⊢
      rcases gLk_6s.mp he with he | ⟨_, e⟩
      · rcases hs with hs | hs
        · exact Or.inl (gL_next hu hx hs he)
        · exact Or.inr (gD_next hu hx hs he)
      · subst e; exact Or.inr (gD_self _ _)) 40 t ht q
    have this : (gL (gset g 6 l 0) t || gD (gset g 6 l 0) b t) = true := this
    rw [Bool.or_eq_true] at this
    exact this
  · have sub : ∀ x, x < 40 → gL (gset g 6 l 0) x = true → gL (gset g 6 l (b + 1)) x = true := fun x hx q =>
      blv_sub (fun t _ q => by rw [gRt_6] at q ⊢; exact q) (fun u t _ _ q => gLk_6s.mpr (Or.inl q)) 40 x hx q
    rintro (q | q)
    · exact sub t ht q
    · have ha := sub (l / 4) (by omega) (gL_own hl h)
      have hbL : gL (gset g 6 l (b + 1)) b = true := gL_next (by omega) hb ha (gLk_6s.mpr (Or.inr ⟨rfl, rfl⟩))
      refine blv_in (fun x => decide (x = b)) (gLk (gset g 6 l 0)) (gL (gset g 6 l (b + 1))) (fun x _ e => ?_) (fun u x hu hx hs he => gL_next hu hx hs (gLk_6s.mpr (Or.inl he))) 40 t ht q
      have : x = b := of_decide_eq_true e
      subst this
      exact hbL
/-- the rows of one link by which t lives -/
def gRow (g : Nat → Nat → Nat) (t l : Nat) : Nat := fb_ct (fun b => gL g b && gL (gset g 6 l (b + 1)) t) 40
theorem gRow_eq {g : Nat → Nat → Nat} {t l : Nat} (hl : l < 160) (ht : t < 40) (h : gL g (l / 4) = true) : gRow g t l = if gL (gset g 6 l 0) t = true then fb_ct (gL g) 40 else fb_ct (fun b => gL g b && gD (gset g 6 l 0) b t) 40 := by
  unfold gRow
  split
  · rename_i q
    refine fb_ct_cong (fun b hb => ?_)
    rw [gL_6s hl hb ht h, q, Bool.true_or, Bool.and_true]
  · rename_i q
    refine fb_ct_cong (fun b hb => ?_)
    rw [gL_6s hl hb ht h, Bool.eq_false_iff.mpr q, Bool.false_or]
section LT
variable {W : Nat → Bool} {g0 : Nat → Nat → Nat} (lk : Nat → Int32) (L : Nat → Bool) (t : Nat)
def ltI (g0 : Nat → Nat → Nat) (L : Nat → Bool) (t : Nat) (S : Nat → Bool) : Prop := S t = true ∧ (∀ x, x < 40 → S x = true → gD g0 x t = true ∧ (x = t ∨ L x = true))
theorem c_lead_31 (h : gok W g0) (hl : ∀ j, j < 160 → lk j = bno (g0 6 j)) (ht : t < 40) (live : Int64) (hL : zh live L) (m0 : Int64) (S0 : Nat → Bool) (h0 : zh m0 S0) (K : Int64 → Int32 → Int64) (P : Int64 → Prop)
    (hK : ∀ (m : Int64) (S : Nat → Bool), zh m S → ltI g0 L t S → (∀ x, x < 40 → S0 x = true → S x = true) → (m = m0 → (∀ s, s < 40 → L s = true → S0 s = false → ∀ x, x < 40 → S0 x = true → gLk g0 s x = false) ∧ P (K m 0)) → (¬ m = m0 → fb_ct S0 40 < fb_ct S 40 ) → P (if m = m0 then K m 0 else K m 1)) :
    ∀ (k i : Nat) (m : Int64) (S : Nat → Bool), i + k = 40 → zh m S → ltI g0 L t S → (∀ x, x < 40 → S0 x = true → S x = true) → ((∀ x, x < 40 → S x = S0 x) → ∀ s, s < i → L s = true → S0 s = false → ∀ x, x < 40 → S0 x = true → gLk g0 s x = false) → (∀ (m : Int64) (S : Nat → Bool), zh m S → ltI g0 L t S → m = m0 → (∀ s, s < 40 → L s = true → S0 s = false → ∀ x, x < 40 → S0 x = true → gLk g0 s x = false) → P (K m 0)) → P (mX0_leadingTo_31 live lk m0 K k i m) := by
  intro k
  induction k with
  | zero =>
    intro i m S hi hm hI hsub hcl hfin
    rw [mX0_leadingTo_31]
    refine hK m S hm hI hsub (fun e => ?_) (fun e => ?_)
    · have same : ∀ x, x < 40 → S x = S0 x := fun x hx => by rw [← zh_at hm hx, ← zh_at h0 hx, e]
      have c := hcl same
      refine ⟨fun s hs => c s (by omega), hfin m S hm hI e (fun s hs => c s (by omega))⟩
    · have ex : ∃ x, x < 40 ∧ S x = true ∧ S0 x = false := by
        refine Classical.byContradiction (fun no => e (zh_ext hm h0 (fun x hx => ?_)))
        rw [Bool.eq_iff_iff]
        refine ⟨fun q => ?_, hsub x hx⟩
        cases z : S0 x with
        | true => rfl
        | false => exact absurd ⟨x, hx, q, z⟩ no
      obtain ⟨x, hx, a, b⟩ := ex
      have d := fb_ct_del S hx a
      have s : fb_ct S0 40 ≤ fb_ct (fun u => S u && decide (u ≠ x)) 40 := by
        refine fb_ct_sub (fun u hu q => ?_)
        have : u ≠ x := fun z => by rw [z, b] at q; exact absurd q (by decide)
        rw [hsub u hu q, decide_eq_true this]; rfl
      omega
  | succ k ih =>
    intro i m S hi hm hI hsub hcl hfin
    have hi40 : i < 40 := by omega
    rw [mX0_leadingTo_31, zh_in (zh_andn hL hm) hi40]
    have stay : (L i = true → S i = false → (∀ x, x < 40 → S x = true → gLk g0 i x = false)) → P (mX0_leadingTo_31 live lk m0 K k (i + 1) m) := by
      intro hno
      refine ih (i + 1) m S (by omega) hm hI hsub (fun same s hs hLs hS0 x hx hSx => ?_) hfin
      by_cases e : s = i
      · subst e
        exact hno hLs (by rw [same s hi40]; exact hS0) x hx (by rw [same x hx]; exact hSx)
      · exact hcl same s (by omega) hLs hS0 x hx hSx
    by_cases h1 : (L i && !S i) = true
    · rw [if_pos h1]
      rw [Bool.and_eq_true, Bool.not_eq_true'] at h1
      have hz := zh_and (s_linkedFrom i hi40 lk) hm
      by_cases h2 : mX10_linkedFrom (nI i) lk &&& m = 0
      · rw [if_pos h2]
        refine stay (fun _ _ x hx hSx => ?_)
        have := (zh_eq0 hz).mp h2 x hx
        rw [bhas_g6' h lk hl hi40 hx, hSx, Bool.and_true] at this
        exact this
      · rw [if_neg h2]
        obtain ⟨x, hx, hp⟩ := (zh_ne hz).mp h2
        rw [bhas_g6' h lk hl hi40 hx, Bool.and_eq_true] at hp
        refine ih (i + 1) _ (fun y => S y || decide (y = i)) (by omega) (zh_or hm (zh_bit hi40)) ⟨by show (S t || decide (t = i)) = true; rw [hI.1]; rfl, fun y hy q => ?_⟩ (fun y hy q => by show (S y || decide (y = i)) = true; rw [hsub y hy q]; rfl) (fun same => ?_) hfin
        · rw [Bool.or_eq_true] at q
          rcases q with q | q
          · exact hI.2 y hy q
          · have : y = i := of_decide_eq_true q
            subst this
            exact ⟨gD_ahead hy hx ht hp.1 (hI.2 x hx hp.2).1, Or.inr h1.1⟩
        · have a := same i hi40
          rw [h1.2, decide_eq_true rfl] at a
          have b := hsub i hi40 a.symm
          rw [h1.2] at b
          exact absurd b (by decide)
    · rw [if_neg h1]
      refine stay (fun a b => ?_)
      rw [a, b] at h1
      exact absurd rfl h1
theorem c_lead_end (hLn : ∀ x y, x < 40 → y < 40 → L x = true → gLk g0 x y = true → L y = true) (ht : t < 40) (S : Nat → Bool) (hI : ltI g0 L t S) (hc : ∀ s, s < 40 → L s = true → S s = false → ∀ x, x < 40 → S x = true → gLk g0 s x = false) (x : Nat) (hx : x < 40) : (S x && L x) = (L x && gD g0 x t) := by
  rw [Bool.eq_iff_iff, Bool.and_eq_true, Bool.and_eq_true]
  constructor
  · rintro ⟨a, b⟩
    exact ⟨b, (hI.2 x hx a).1⟩
  · rintro ⟨a, b⟩
    refine ⟨?_, a⟩
    cases z : S x with
    | true => rfl
    | false =>
      have := blv_in (fun y => decide (y = x)) (gLk g0) (fun y => L y && !S y) (fun y _ e => by
        have : y = x := of_decide_eq_true e
        subst this
        show (L y && !S y) = true
        rw [a, z]; rfl) (fun u y hu hy hs he => by
        have hs : (L u && !S u) = true := hs
        rw [Bool.and_eq_true, Bool.not_eq_true'] at hs
        show (L y && !S y) = true
        have hLy := hLn u y hu hy hs.1 he
        cases w : S y with
        | false => rw [hLy]; rfl
        | true =>
          have := hc u hu hs.1 hs.2 y hy w
          rw [he] at this
          exact absurd this (by decide)) 40 t ht b
      have this : (L t && !S t) = true := this
      rw [hI.1, Bool.not_true, Bool.and_false] at this
      exact absurd this (by decide)
theorem c_lead_12 (h : gok W g0) (hl : ∀ j, j < 160 → lk j = bno (g0 6 j)) (hLn : ∀ x y, x < 40 → y < 40 → L x = true → gLk g0 x y = true → L y = true) (ht : t < 40) (live : Int64) (hL : zh live L) :
    ∀ (k i : Nat) (m : Int64) (S : Nat → Bool) (more : Int32), i + k = 40 → zh m S → ltI g0 L t S → (more = 1 ∧ i + 1 ≤ fb_ct S 40 ∨ more = 0 ∧ ∀ s, s < 40 → L s = true → S s = false → ∀ x, x < 40 → S x = true → gLk g0 s x = false) → zh (mX0_leadingTo_12 live lk k i m more) (fun x => L x && gD g0 x t) := by
  intro k
  induction k with
  | zero =>
    intro i m S more hi hm hI hmore
    rw [mX0_leadingTo_12]
    have hc : ∀ s, s < 40 → L s = true → S s = false → ∀ x, x < 40 → S x = true → gLk g0 s x = false := by
      rcases hmore with ⟨_, h2⟩ | ⟨_, h2⟩
      · have := fb_ct_le S 40
        omega
      · exact h2
    exact zh_cong (zh_and hm hL) (fun x hx => c_lead_end L t hLn ht S hI hc x hx)
  | succ k ih =>
    intro i m S more hi hm hI hmore
    rw [mX0_leadingTo_12]
    rcases hmore with ⟨h1, h2⟩ | ⟨h1, h2⟩
    · rw [if_neg (by rw [h1]; decide)]
      refine c_lead_31 lk L t h hl ht live hL m S hm (fun zx4_12 zx6_12 => mX0_leadingTo_12 live lk k (i + 1) zx4_12 zx6_12) (fun r => zh r (fun x => L x && gD g0 x t)) (fun m' S' hm' hI' hsub ha hb => ?_) 40 0 m S rfl hm hI (fun _ _ q => q) (fun _ s hs => by omega) (fun m' S' hm' hI' e hc => ?_)
      · by_cases e : m' = m
        · rw [if_pos e]; exact (ha e).2
        · rw [if_neg e]
          have := hb e
          exact ih (i + 1) m' S' 1 (by omega) hm' hI' (Or.inl ⟨rfl, by omega⟩)
      · refine ih (i + 1) m' S' 0 (by omega) hm' hI' (Or.inr ⟨rfl, ?_⟩)
        have same : ∀ x, x < 40 → S' x = S x := fun x hx => by rw [← zh_at hm' hx, ← zh_at hm hx, e]
        intro s hs hLs hS x hx hSx
        exact hc s hs hLs (by rw [← same s hs]; exact hS) x hx (by rw [← same x hx]; exact hSx)
    · rw [if_pos h1]
      exact zh_cong (zh_and hm hL) (fun x hx => c_lead_end L t hLn ht S hI h2 x hx)
theorem c_lead (h : gok W g0) (hl : ∀ j, j < 160 → lk j = bno (g0 6 j)) (hLn : ∀ x y, x < 40 → y < 40 → L x = true → gLk g0 x y = true → L y = true) (ht : t < 40) (live : Int64) (hL : zh live L) : zh (mX0_leadingTo (nI t) live lk) (fun x => L x && gD g0 x t) := by
  unfold mX0_leadingTo
  refine c_lead_12 lk L t h hl hLn ht live hL 40 0 _ _ 1 rfl (zh_bit ht) ⟨decide_eq_true rfl, fun x _ q => ?_⟩ (Or.inl ⟨rfl, ?_⟩)
  · have : x = t := of_decide_eq_true q
    subst this
    exact ⟨gD_self _ _, Or.inl rfl⟩
  · exact fb_ct_pos.mpr ⟨t, ht, decide_eq_true rfl⟩
end LT
