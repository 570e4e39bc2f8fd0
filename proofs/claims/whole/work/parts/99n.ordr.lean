section RO
variable {g : GH} {sz tr ca pl ut : Nat → Int32} {b U : Nat}
/-- the reference's layer 1 while an image is read -/
def rIm (g : GH) (sz tr ca pl : Nat → Int32) : Prop := (∀ t, t < 40 → sz (40 * 1 + t) = nI (g 0 t)) ∧ ∀ t, t < 40 → 0 < g 0 t → tr (40 * 1 + t) = nI (g 1 t) ∧ ca (40 * 1 + t) = nI (g 2 t) ∧ pl (40 * 1 + t) = nI (g 3 t)
theorem ri_in (B : gByt g) (M : rIm g sz tr ca pl) {w c t : Nat} (hw : w < 256) (hc : c < 256) (ht : t < 40) : (0 < sz (40 * 1 + t) ∧ tr (40 * 1 + t) = nI w ∧ ca (40 * 1 + t) = nI c) ↔ (0 < g 0 t ∧ g 1 t = w ∧ g 2 t = c) := by
  obtain ⟨b0, b1, b2, b3⟩ := B t ht
  rw [M.1 t ht, nIp (by omega)]
  constructor
  · rintro ⟨p, q, r⟩
    obtain ⟨e1, e2, e3⟩ := M.2 t ht p
    rw [e1] at q; rw [e2] at r
    exact ⟨p, (nI_eq (by omega) (by omega)).mp q, (nI_eq (by omega) (by omega)).mp r⟩
  · rintro ⟨p, q, r⟩
    obtain ⟨e1, e2, e3⟩ := M.2 t ht p
    exact ⟨p, by rw [e1, q], by rw [e2, r]⟩
theorem ri_things (B : gByt g) (M : rIm g sz tr ca pl) {w c : Nat} (hw : w < 256) (hc : c < 256) : mX12_thingsIn (1 : Int32) (nI w) (nI c) sz tr ca = some (nI (gNs g w c)) := by
  rw [show (1 : Int32) = nI 1 from rfl, s_thingsIn 1 (by decide)]
  congr 2
  refine fb_ct_cong (fun t ht => ?_)
  rw [decide_eq_decide]
  exact ri_in B M hw hc ht
theorem ri_units (B : gByt g) (M : rIm g sz tr ca pl) {w c : Nat} (hw : w < 256) (hc : c < 256) : mX12_unitsIn (1 : Int32) (nI w) (nI c) sz tr ca = some (nI (gUs g w c)) := by
  rw [show (1 : Int32) = nI 1 from rfl, s_unitsIn 1 (by decide) sz tr ca (g 0) M.1]
  congr 2
  refine fb_sm_cong (fun t ht => ?_)
  have := ri_in B M hw hc ht
  by_cases h : 0 < g 0 t ∧ g 1 t = w ∧ g 2 t = c
  · rw [if_pos h, if_pos (this.mpr h)]
  · rw [if_neg h, if_neg (fun q => h (this.mp q))]
theorem ri_105 (B : gByt g) (M : rIm g sz tr ca pl) {w c p : Nat} (hw : w < 40) (hc : c < 40) (hp : p < 256) (X : Int32) (F : Int32 → Int32 → Option Bool) : ∀ k i, i + k = 40 → mX12_isOrderly_105 sz tr ca pl c w X (nI p) F k i (nI (fb_ct (fun t => decide (0 < g 0 t ∧ g 1 t = w ∧ g 2 t = c ∧ g 3 t = p)) i)) = if gRs g w c p = 1 then F X (nI (p + 1)) else some false := by
  intro k
  induction k with
  | zero =>
    intro i hi
    have : i = 40 := by omega
    subst this
    have r40 : gRs g w c p < 1000 := by have := fb_ct_le (fun t => decide (0 < g 0 t ∧ g 1 t = w ∧ g 2 t = c ∧ g 3 t = p)) 40; unfold gRs; omega
    rw [mX12_isOrderly_105, nI_1]
    show (if nI (gRs g w c p) = 1 then _ else _) = _
    by_cases h : gRs g w c p = 1
    · rw [if_pos h, if_pos (show nI (gRs g w c p) = 1 by rw [h]; rfl)]
    · rw [if_neg h, if_neg (show ¬ nI (gRs g w c p) = 1 from fun q => h ((nI_eq (b := 1) (by omega) (by decide)).mp q))]
  | succ k ih =>
    intro i hi
    have hi40 : i < 40 := by omega
    have nx := ih (i + 1) (by omega)
    rw [fb_ct_succ] at nx
    have z0 : ∀ x, nI x + 0 = nI x := fun x => by rw [show (0 : Int32) = nI 0 from rfl, nI_add, Nat.add_zero]
    have no : ¬ (0 < g 0 i ∧ g 1 i = w ∧ g 2 i = c ∧ g 3 i = p) → ∀ X, (if decide (0 < g 0 i ∧ g 1 i = w ∧ g 2 i = c ∧ g 3 i = p) = true then X + 1 else X) = X := fun h X => if_neg (fun q => h (of_decide_eq_true q))
    rw [mX12_isOrderly_105, show (1 : Int32) = nI 1 from rfl, s_isIn 1 (by decide) sz tr ca i hi40, obind, show (40 : Int32) + nI i = nI (40 * 1 + i) by rw [show (40 : Int32) = nI 40 from rfl, nI_add], zc _ (by omega), z0, decide_eq_decide.mpr (ri_in B M (by omega) (by omega) hi40)]
    by_cases h : 0 < g 0 i ∧ g 1 i = w ∧ g 2 i = c
    · rw [decide_eq_true h, if_pos rfl, (M.2 i hi40 h.1).2.2]
      have bi := B i hi40
      by_cases e : g 3 i = p
      · rw [if_pos (show nI (g 3 i) = nI p by rw [e]), nI_add]
        rw [if_pos (decide_eq_true ⟨h.1, h.2.1, h.2.2, e⟩)] at nx
        exact nx
      · rw [if_neg (fun q => e ((nI_eq (by omega) (by omega)).mp q))]
        rw [no (fun q => e q.2.2.2)] at nx
        exact nx
    · rw [decide_eq_false h, if_neg (by decide)]
      rw [no (fun q => h ⟨q.1, q.2.1, q.2.2.1⟩)] at nx
      exact nx
theorem ri_93 (B : gByt g) (M : rIm g sz tr ca pl) {w c N : Nat} (hw : w < 40) (hc : c < 40) (hN : N ≤ 40) (F : Option Bool) : ∀ m p f, p + m = N → m < f → ((∀ q, p ≤ q → q < N → gRs g w c q = 1) ∧ mX12_isOrderly_93 sz tr ca pl c w F f (nI N) (nI p) = F) ∨ (¬ (∀ q, p ≤ q → q < N → gRs g w c q = 1) ∧ mX12_isOrderly_93 sz tr ca pl c w F f (nI N) (nI p) = some false) := by
  intro m
  induction m with
  | zero =>
    intro p f hp hf
    obtain ⟨f, rfl⟩ : ∃ h, f = h + 1 := ⟨f - 1, by omega⟩
    refine Or.inl ⟨fun q h1 h2 => by omega, ?_⟩
    rw [mX12_isOrderly_93, if_neg (nI_nlt (by omega) (by omega))]
  | succ m ih =>
    intro p f hp hf
    obtain ⟨f, rfl⟩ : ∃ h, f = h + 1 := ⟨f - 1, by omega⟩
    have e := ri_105 (p := p) B M hw hc (by omega) (nI N) (fun zx3_93 zx4_93 => mX12_isOrderly_93 sz tr ca pl c w F f zx3_93 zx4_93) 40 0 rfl
    rw [mX12_isOrderly_93, if_pos (nI_lt (by omega) (by omega)), show (0 : Int32) = nI (fb_ct (fun t => decide (0 < g 0 t ∧ g 1 t = w ∧ g 2 t = c ∧ g 3 t = p)) 0) from rfl, e]
    by_cases h : gRs g w c p = 1
    · rw [if_pos h]
      have more : (∀ q, p + 1 ≤ q → q < N → gRs g w c q = 1) ↔ (∀ q, p ≤ q → q < N → gRs g w c q = 1) := ⟨fun y q h1 h2 => by
        by_cases z : q = p
        · subst z; exact h
        · exact y q (by omega) h2, fun y q h1 h2 => y q (by omega) h2⟩
      rw [← more]
      exact ih (p + 1) f (by omega) (by omega)
    · rw [if_neg h]
      exact Or.inr ⟨fun y => h (y p (Nat.le_refl _) (by omega)), rfl⟩
theorem ri_69 (B : gByt g) (M : rIm g sz tr ca pl) (hb : b < 2) (hU : ut b = nI U) (hU2 : U ≤ 99) {w c : Nat} (hw : w < 40) (hc : c < 40) (F : Option Bool) : ((gUs g w c ≤ U ∧ ∀ p, p < gNs g w c → gRs g w c p = 1) ∧ mX12_isOrderly_69 (nI b) ut sz tr ca pl c w F (nI (gNs g w c)) = F) ∨ (¬ (gUs g w c ≤ U ∧ ∀ p, p < gNs g w c → gRs g w c p = 1) ∧ mX12_isOrderly_69 (nI b) ut sz tr ca pl c w F (nI (gNs g w c)) = some false) := by
  have lt := gUs_lt B w c
  have n40 : gNs g w c ≤ 40 := fb_ct_le _ 40
  unfold mX12_isOrderly_69
  rw [ri_units B M (by omega) (by omega), obind, if_pos (zb _ _ hb (by decide)), zc b (by omega), hU]
  by_cases h : gUs g w c ≤ U
  · rw [if_neg (nI_nlt h (by omega))]
    rcases ri_93 B M hw hc n40 F (gNs g w c) 0 xfuel (by omega) (by unfold xfuel; omega) with ⟨a, e⟩ | ⟨a, e⟩
    · exact Or.inl ⟨⟨h, fun p hp => a p (Nat.zero_le _) hp⟩, e⟩
    · exact Or.inr ⟨fun q => a (fun p _ hp => q.2 p hp), e⟩
  · rw [if_pos (nI_lt (by omega) (by omega))]
    exact Or.inr ⟨fun q => h q.1, rfl⟩
theorem ri_47 (B : gByt g) (M : rIm g sz tr ca pl) (hb : b < 2) (hU : ut b = nI U) (hU2 : U ≤ 99) {w c : Nat} (hw : w < 40) (hc : c < 40) (F : Option Bool) : (((c ≠ 0 ∨ w = 0 ∨ gNs g (w - 1) 0 ≠ 0) ∧ gUs g w c ≤ U ∧ ∀ p, p < gNs g w c → gRs g w c p = 1) ∧ mX12_isOrderly_47 (nI b) ut sz tr ca pl c w F (nI (gNs g w c)) = F) ∨ (¬ ((c ≠ 0 ∨ w = 0 ∨ gNs g (w - 1) 0 ≠ 0) ∧ gUs g w c ≤ U ∧ ∀ p, p < gNs g w c → gRs g w c p = 1) ∧ mX12_isOrderly_47 (nI b) ut sz tr ca pl c w F (nI (gNs g w c)) = some false) := by
  have r := ri_69 B M hb hU hU2 hw hc F
  have pass : (c ≠ 0 ∨ w = 0 ∨ gNs g (w - 1) 0 ≠ 0) → (((c ≠ 0 ∨ w = 0 ∨ gNs g (w - 1) 0 ≠ 0) ∧ gUs g w c ≤ U ∧ ∀ p, p < gNs g w c → gRs g w c p = 1) ∧ mX12_isOrderly_69 (nI b) ut sz tr ca pl c w F (nI (gNs g w c)) = F) ∨ (¬ ((c ≠ 0 ∨ w = 0 ∨ gNs g (w - 1) 0 ≠ 0) ∧ gUs g w c ≤ U ∧ ∀ p, p < gNs g w c → gRs g w c p = 1) ∧ mX12_isOrderly_69 (nI b) ut sz tr ca pl c w F (nI (gNs g w c)) = some false) := fun h => by
    rcases r with ⟨a, e⟩ | ⟨a, e⟩
    · exact Or.inl ⟨⟨h, a⟩, e⟩
    · exact Or.inr ⟨fun q => a q.2, e⟩
  have n40 : ∀ x y, gNs g x y ≤ 40 := fun x y => fb_ct_le _ 40
  unfold mX12_isOrderly_47
  by_cases c0 : c = 0
  · rw [if_pos (show nI c = 0 by rw [c0]; rfl)]
    by_cases w0 : w = 0
    · rw [if_neg (show ¬ (0 : Int32) < nI w by rw [w0]; decide)]
      exact pass (Or.inr (Or.inl w0))
    · rw [if_pos (show (0 : Int32) < nI w from nI_lt (a := 0) (by omega) (by omega)), show nI w - 1 = nI (w - 1) from pk_sub (b := 1) (by omega), show mX12_thingsIn (1 : Int32) (nI (w - 1)) (0 : Int32) sz tr ca = some (nI (gNs g (w - 1) 0)) from ri_things (c := 0) B M (by omega) (by decide), obind]
      by_cases z : gNs g (w - 1) 0 = 0
      · rw [if_pos (show nI (gNs g (w - 1) 0) = 0 by rw [z]; rfl)]
        exact Or.inr ⟨fun q => by
          rcases q.1 with q | q | q
          · exact q c0
          · exact w0 q
          · exact q z, rfl⟩
      · rw [if_neg (nI_ne0 (by omega) (by have := n40 (w - 1) 0; omega))]
        exact pass (Or.inr (Or.inr z))
  · rw [if_neg (nI_ne0 (by omega) (by omega))]
    exact pass (Or.inl c0)
theorem ri_10 (B : gByt g) (M : rIm g sz tr ca pl) (hb : b < 2) (hU : ut b = nI U) (hU2 : U ≤ 99) {w : Nat} (hw : w < 40) (F : Option Bool) : ∀ k c, c + k = 40 → ((∀ d, c ≤ d → d < 40 → oCar g U w d) ∧ mX12_isOrderly_10 (nI b) ut sz tr ca pl w F k c = F) ∨ (¬ (∀ d, c ≤ d → d < 40 → oCar g U w d) ∧ mX12_isOrderly_10 (nI b) ut sz tr ca pl w F k c = some false) := by
  intro k
  induction k with
  | zero => intro c hc; exact Or.inl ⟨fun d h1 h2 => by omega, by rw [mX12_isOrderly_10]⟩
  | succ k ih =>
    intro c hc
    have hc40 : c < 40 := by omega
    have n40 : ∀ x y, gNs g x y ≤ 40 := fun x y => fb_ct_le _ 40
    have more : oCar g U w c → ((∀ d, c + 1 ≤ d → d < 40 → oCar g U w d) ↔ (∀ d, c ≤ d → d < 40 → oCar g U w d)) := fun h => ⟨fun y q h1 h2 => by
      by_cases z : q = c
      · subst z; exact h
      · exact y q (by omega) h2, fun y q h1 h2 => y q (by omega) h2⟩
    rw [mX12_isOrderly_10, ri_things B M (by omega) (by omega), obind]
    by_cases z : gNs g w c = 0
    · rw [if_pos (show nI (gNs g w c) = 0 by rw [z]; rfl), ← more (Or.inl z)]
      exact ih (c + 1) (by omega)
    · rw [if_neg (nI_ne0 (by omega) (by have := n40 w c; omega))]
      have r := ri_47 B M hb hU hU2 hw hc40 (mX12_isOrderly_10 (nI b) ut sz tr ca pl w F k (c + 1))
      have pass : (c = 0 ∨ gNs g w (c - 1) ≠ 0) → ((∀ d, c ≤ d → d < 40 → oCar g U w d) ∧ mX12_isOrderly_47 (nI b) ut sz tr ca pl c w (mX12_isOrderly_10 (nI b) ut sz tr ca pl w F k (c + 1)) (nI (gNs g w c)) = F) ∨ (¬ (∀ d, c ≤ d → d < 40 → oCar g U w d) ∧ mX12_isOrderly_47 (nI b) ut sz tr ca pl c w (mX12_isOrderly_10 (nI b) ut sz tr ca pl w F k (c + 1)) (nI (gNs g w c)) = some false) := fun h => by
        rcases r with ⟨a, e⟩ | ⟨a, e⟩
        · rw [e, ← more (Or.inr ⟨h, a⟩)]
          exact ih (c + 1) (by omega)
        · exact Or.inr ⟨fun q => a ((q c (Nat.le_refl _) hc40).resolve_left z).2, e⟩
      by_cases c0 : c = 0
      · rw [if_neg (show ¬ (0 : Int32) < nI c by rw [c0]; decide)]
        exact pass (Or.inl c0)
      · rw [if_pos (show (0 : Int32) < nI c from nI_lt (a := 0) (by omega) (by omega)), show nI c - 1 = nI (c - 1) from pk_sub (b := 1) (by omega), ri_things B M (by omega) (by omega), obind]
        by_cases y : gNs g w (c - 1) = 0
        · rw [if_pos (show nI (gNs g w (c - 1)) = 0 by rw [y]; rfl)]
          exact Or.inr ⟨fun q => by
            rcases ((q c (Nat.le_refl _) hc40).resolve_left z).1 with q | q
            · exact c0 q
            · exact q y, rfl⟩
        · rw [if_neg (nI_ne0 (by omega) (by have := n40 w (c - 1); omega))]
          exact pass (Or.inr y)
theorem ri_order (B : gByt g) (M : rIm g sz tr ca pl) (hb : b < 2) (hU : ut b = nI U) (hU2 : U ≤ 99) : ((∀ w c, w < 40 → c < 40 → oCar g U w c) ∧ mX12_isOrderly (nI b) ut sz tr ca pl = some true) ∨ (¬ (∀ w c, w < 40 → c < 40 → oCar g U w c) ∧ mX12_isOrderly (nI b) ut sz tr ca pl = some false) := by
  have go : ∀ k w, w + k = 40 → ((∀ v c, w ≤ v → v < 40 → c < 40 → oCar g U v c) ∧ mX12_isOrderly_2 (nI b) ut sz tr ca pl k w = some true) ∨ (¬ (∀ v c, w ≤ v → v < 40 → c < 40 → oCar g U v c) ∧ mX12_isOrderly_2 (nI b) ut sz tr ca pl k w = some false) := by
    intro k
    induction k with
    | zero => intro w hw; exact Or.inl ⟨fun v c h1 h2 => by omega, by rw [mX12_isOrderly_2]⟩
    | succ k ih =>
      intro w hw
      rw [mX12_isOrderly_2]
      rcases ri_10 B M hb hU hU2 (w := w) (by omega) (mX12_isOrderly_2 (nI b) ut sz tr ca pl k (w + 1)) 40 0 rfl with ⟨a, e⟩ | ⟨a, e⟩
      · rw [e]
        have more : (∀ v c, w + 1 ≤ v → v < 40 → c < 40 → oCar g U v c) ↔ (∀ v c, w ≤ v → v < 40 → c < 40 → oCar g U v c) := ⟨fun y v c h1 h2 h3 => by
          by_cases z : v = w
          · subst z; exact a c (Nat.zero_le _) h3
          · exact y v c (by omega) h2 h3, fun y v c h1 h2 h3 => y v c (by omega) h2 h3⟩
        rw [← more]
        exact ih (w + 1) (by omega)
      · rw [e]
        exact Or.inr ⟨fun q => a (fun d _ h2 => q w d (Nat.le_refl _) (by omega) h2), rfl⟩
  unfold mX12_isOrderly
  rcases go 40 0 rfl with ⟨a, e⟩ | ⟨a, e⟩
  · exact Or.inl ⟨fun w c h1 h2 => a w c (Nat.zero_le _) h1 h2, e⟩
  · exact Or.inr ⟨fun q => a (fun v c _ h2 h3 => q v c h2 h3), e⟩
end RO
