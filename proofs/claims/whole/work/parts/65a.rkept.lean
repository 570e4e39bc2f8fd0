/-- what is KEPT: how many rows, three numbers each -/
abbrev GK : Type := Nat × (Nat → Nat)
def kAdd (K : GK) (a b c : Nat) : GK :=
  ((if K.1 = 40 then 39 else K.1) + 1, fun i => if i = 3 * (if K.1 = 40 then 39 else K.1) then a else if i = 3 * (if K.1 = 40 then 39 else K.1) + 1 then b else if i = 3 * (if K.1 = 40 then 39 else K.1) + 2 then c else if K.1 = 40 then K.2 (i + 3) else K.2 i)
def rK (v : Nat) (K : GK) (km kr : Nat → Int32) : Prop := km v = nI K.1 ∧ K.1 ≤ 40 ∧ ∀ i, i < 3 * K.1 → kr (120 * v + i) = nI (K.2 i)
def lK (v : Nat) (a a' : Nat → Int32) : Prop := ∀ i, i < 120 * v ∨ 120 * v + 120 ≤ i → a' i = a i
def l1 (v : Nat) (a a' : Nat → Int32) : Prop := ∀ i, i ≠ v → a' i = a i
section RK
variable {v : Nat} {K : GK} {km kr so : Nat → Int32}
theorem r_wd59 (hv : v < 22) {m a b c : Nat} {R : Nat → Nat} (hm : m < 40) (h1 : km v = nI m) (h2 : ∀ i, i < 3 * m → kr (120 * v + i) = nI (R i)) (hs : so v = nI a) :
    ∃ km' kr', rK v (m + 1, fun i => if i = 3 * m then a else if i = 3 * m + 1 then b else if i = 3 * m + 2 then c else R i) km' kr' ∧ (l1 v km km' ∧ lK v kr kr') ∧ mX12_writesDown_59 (nI v) (nI b) (nI c) so km kr = some (km', kr') := by
  unfold mX12_writesDown_59
  have e0 : (3 : Int32) * (40 * nI v + nI m) = nI (120 * v + 3 * m) := by
    rw [zi_t, show (3 : Int32) = nI 3 from rfl, pk_mul]; congr 1; omega
  have e1 : nI (120 * v + 3 * m) + 1 = nI (120 * v + 3 * m + 1) := nI_1 _
  have e2 : nI (120 * v + 3 * m) + 2 = nI (120 * v + 3 * m + 2) := nI_add _ 2
  rw [zc v (by omega), h1, e0, e1, e2, zb _ 2640 (by omega) (by decide), if_pos rfl, zb _ 2640 (by omega) (by decide), if_pos rfl, zb _ 2640 (by omega) (by decide), if_pos rfl, zc _ (by omega), zc _ (by omega), zc _ (by omega), hs, nI_1]
  refine ⟨_, _, ⟨pk_us, hm, fun i hi => ?_⟩, ⟨fun i hi => pk_un hi, fun i hi => ?_⟩, rfl⟩
  · have hi : i < 3 * (m + 1) := hi
    show upd _ _ _ _ = nI (if i = 3 * m then a else if i = 3 * m + 1 then b else if i = 3 * m + 2 then c else R i)
    by_cases z : i = 3 * m + 2
    · subst z
      rw [if_neg (by omega), if_neg (by omega), if_pos rfl, show 120 * v + (3 * m + 2) = 120 * v + 3 * m + 2 by omega, pk_us]
    · rw [pk_un (by omega)]
      by_cases y : i = 3 * m + 1
      · subst y
        rw [if_neg (by omega), if_pos rfl, show 120 * v + (3 * m + 1) = 120 * v + 3 * m + 1 by omega, pk_us]
      · rw [pk_un (by omega)]
        by_cases x : i = 3 * m
        · subst x
          rw [if_pos rfl, pk_us]
        · rw [pk_un (by omega), if_neg x, if_neg y, if_neg z]
          exact h2 i (by omega)
  · rw [pk_un (by omega), pk_un (by omega), pk_un (by omega)]
theorem r_wd16 (hv : v < 22) (x y : Int32) : ∀ m f i (kr1 : Nat → Int32), i + m = 117 → m < f → (∀ j, j < i → kr1 (120 * v + j) = kr (120 * v + j + 3)) → (∀ j, ¬ (120 * v ≤ j ∧ j < 120 * v + i) → kr1 j = kr j) →
    ∃ kr2, (∀ j, j < 117 → kr2 (120 * v + j) = kr (120 * v + j + 3)) ∧ (∀ j, ¬ (120 * v ≤ j ∧ j < 120 * v + 117) → kr2 j = kr j) ∧ mX12_writesDown_16 (nI v) x y so km f (nI (120 * v + i)) kr1 = mX12_writesDown_59 (nI v) x y so (upd km v (km v - 1)) kr2 := by
  intro m
  induction m with
  | zero =>
    intro f i kr1 hm hf h1 h2
    obtain ⟨f, rfl⟩ : ∃ q, f = q + 1 := ⟨f - 1, by omega⟩
    have : i = 117 := by omega
    subst this
    refine ⟨kr1, h1, h2, ?_⟩
    have e : (120 : Int32) * nI v + 120 - 3 = nI (120 * v + 117) := by
      rw [show (120 : Int32) = nI 120 from rfl, pk_mul, nI_add, show (3 : Int32) = nI 3 from rfl, pk_sub (by omega)]; congr 1
    rw [mX12_writesDown_16, e, if_neg (nI_nlt (by omega) (by omega)), zc v (by omega)]
  | succ m ih =>
    intro f i kr1 hm hf h1 h2
    obtain ⟨f, rfl⟩ : ∃ q, f = q + 1 := ⟨f - 1, by omega⟩
    have e : (120 : Int32) * nI v + 120 - 3 = nI (120 * v + 117) := by
      rw [show (120 : Int32) = nI 120 from rfl, pk_mul, nI_add, show (3 : Int32) = nI 3 from rfl, pk_sub (by omega)]; congr 1
    have e3 : nI (120 * v + i) + 3 = nI (120 * v + i + 3) := nI_add _ 3
    rw [mX12_writesDown_16, e, if_pos (nI_lt (by omega) (by omega)), e3, zb _ 2640 (by omega) (by decide), if_pos rfl, zb _ 2640 (by omega) (by decide), if_pos rfl, zc _ (by omega), zc _ (by omega), nI_1]
    refine ih f (i + 1) _ (by omega) (by omega) (fun j hj => ?_) (fun j hj => ?_)
    · by_cases z : j = i
      · subst z; rw [pk_us]; exact h2 _ (by omega)
      · rw [pk_un (by omega)]; exact h1 j (by omega)
    · rw [pk_un (by omega)]; exact h2 j (by omega)
theorem r_writes (hv : v < 22) (h : rK v K km kr) {a b c : Nat} (hs : so v = nI a) :
    ∃ km' kr', rK v (kAdd K a b c) km' kr' ∧ (l1 v km km' ∧ lK v kr kr') ∧ mX12_writesDown (nI v) (nI b) (nI c) so km kr = some (km', kr') := by
  obtain ⟨h1, h2, h3⟩ := h
  unfold mX12_writesDown
  rw [zb v 22 hv (by decide), if_pos rfl, zc v (by omega), h1]
  by_cases z : K.1 = 40
  · rw [if_pos (show nI K.1 = 40 by rw [z]; rfl)]
    obtain ⟨kr2, e1, e2, e3⟩ := r_wd16 (so := so) (km := km) (kr := kr) hv (nI b) (nI c) 117 xfuel 0 kr rfl (by unfold xfuel; omega) (fun j hj => by omega) (fun j hj => rfl)
    have e0 : (120 : Int32) * nI v = nI (120 * v + 0) := by rw [show (120 : Int32) = nI 120 from rfl, pk_mul]; rfl
    rw [e0, e3]
    obtain ⟨km', kr', k1, ⟨k2, k3⟩, k4⟩ := r_wd59 (so := so) (km := upd km v (km v - 1)) (kr := kr2) (m := 39) (a := a) (b := b) (c := c) (R := fun i => K.2 (i + 3)) hv (by decide) (by rw [pk_us, h1, z]; rfl) (fun i hi => by rw [e1 i (by omega)]; exact h3 (i + 3) (by omega)) hs
    refine ⟨km', kr', ?_, ⟨fun i hi => (k2 i hi).trans (pk_un hi), fun i hi => (k3 i hi).trans (e2 i (by omega))⟩, k4⟩
    unfold kAdd
    simp only [z, if_true]
    exact k1
  · rw [if_neg (show ¬ nI K.1 = 40 from fun q => z ((nI_eq (b := 40) (by omega) (by decide)).mp q))]
    obtain ⟨km', kr', k1, k2, k4⟩ := r_wd59 (so := so) (km := km) (kr := kr) (m := K.1) (a := a) (b := b) (c := c) (R := K.2) hv (by omega) h1 h3 hs
    refine ⟨km', kr', ?_, k2, k4⟩
    unfold kAdd
    simp only [z, if_false]
    exact k1
end RK
abbrev TT : Type := Int32 × Int32 × Int32 × Int32 × Bool × (Nat → Int32) × (Nat → Int32) × (Nat → Int32) × (Nat → Int32) × (Nat → Int32) × (Nat → Int32) × (Nat → Int32) × (Nat → Int32) × (Nat → Int32) × (Nat → Int32) × (Nat → Int64) × (Nat → Int32) × (Nat → Int32) × (Nat → Int32) × (Nat → Int32) × (Nat → Int32)
section RA
variable {v : Nat} {h : GH} {sz tr ca pl ag mk lk rt st sT so : Nat → Int32}
theorem gPa_4 (h : GH) (b : Nat) : gPa h 4 b = if 0 < h 0 b ∧ h 4 b < 99 then h 4 b + 1 else h 4 b := by
  unfold gPa
  by_cases z : 0 < h 0 b ∧ h 4 b < 99
  · rw [if_pos ⟨rfl, z.1, z.2⟩, if_pos z]
  · rw [if_neg (fun q => z q.2), if_neg (by omega), if_neg z]
theorem gPa_o (h : GH) {a : Nat} (e : a ≠ 4 ∧ a ≠ 8) (b : Nat) : gPa h a b = h a b := by
  unfold gPa
  rw [if_neg (fun q => e.1 q.1), if_neg (fun q => e.2 q.1)]
theorem gPa_8 (h : GH) : gPa h 8 0 = h 8 0 + 1 := by
  unfold gPa
  rw [if_neg (fun q => absurd q.1 (by decide)), if_pos ⟨rfl, rfl⟩]
theorem r_age {ag0 : Nat → Int32} (hv : v < 22) (N : iN h) (hs : so v = nI (h 8 0)) (rn fe wt co : Int32) (fu : Bool) (km kr ask np im : Nat → Int32) (sk : Nat → Int64) : ∀ k i (ag : Nat → Int32), i + k = 40 → rM v h sz tr ca pl ag0 mk lk rt st sT → lF v ag0 ag → (∀ t, t < 40 → 0 < h 0 t → ag (40 * v + t) = nI (if t < i ∧ h 4 t < 99 then h 4 t + 1 else h 4 t)) →
    ∃ ag', lF v ag0 ag' ∧ rM v (gPa h) sz tr ca pl ag' mk lk rt st sT ∧ mX12_ticks_144 (nI v) so k i rn fe wt co fu sz tr ca pl ag mk lk km kr sk ask np im st sT = some ((rn, fe, wt, co, fu, upd so v (nI (h 8 0 + 1)), sz, tr, ca, pl, ag', mk, lk, km, kr, sk, ask, np, im, st, sT) : TT) := by
  intro k
  induction k with
  | zero =>
    intro i ag hi M f e
    refine ⟨ag, f, ⟨fun t ht => ?_, fun t ht p => ?_, fun t ht q => ?_, fun j hj => by rw [gPa_o h (by decide)]; exact M.2.2.2.1 j hj, fun r hr => by rw [gPa_o h (by decide)]; exact M.2.2.2.2 r hr⟩, ?_⟩
    · rw [gPa_o h (by decide), gPa_o h (by decide)]; exact M.1 t ht
    · rw [gPa_o h (by decide)] at p
      obtain ⟨a, b, c, d, g⟩ := M.2.1 t ht p
      rw [gPa_o h (a := 1) (by decide), gPa_o h (a := 2) (by decide), gPa_o h (a := 3) (by decide), gPa_o h (a := 5) (by decide), gPa_4]
      refine ⟨a, b, c, ?_, g⟩
      rw [e t ht p]
      by_cases z : h 4 t < 99
      · rw [if_pos ⟨by omega, z⟩, if_pos ⟨p, z⟩]
      · rw [if_neg (fun q => z q.2), if_neg (fun q => z q.2)]
    · rw [gPa_o h (by decide)] at q
      rw [gPa_o h (by decide)]; exact M.2.2.1 t ht q
    · rw [mX12_ticks_144, zb v 22 hv (by decide), if_pos rfl, zc v (by omega), hs, nI_1]
  | succ k ih =>
    intro i ag hi M f e
    have hi40 : i < 40 := by omega
    rw [mX12_ticks_144, r_there hv M N hi40, obind]
    by_cases p : 0 < h 0 i
    · have n := N.1 i hi40
      have ei := e i hi40 p
      rw [if_neg (by omega)] at ei
      rw [if_pos (decide_eq_true p), zb_t v i hv hi40, if_pos rfl, zc_t v i hv hi40, ei]
      by_cases z : h 4 i < 99
      · rw [if_pos (show nI (h 4 i) < 99 from nI_lt (b := 99) z (by decide)), nI_1]
        refine ih (i + 1) _ (by omega) M (lF_tr f (lF_up ag hi40 _)) (fun t ht q => ?_)
        by_cases y : t = i
        · subst y; rw [pk_us, if_pos ⟨by omega, z⟩]
        · rw [pk_un (by omega), e t ht q]
          by_cases x : t < i ∧ h 4 t < 99
          · rw [if_pos x, if_pos ⟨by omega, x.2⟩]
          · rw [if_neg x, if_neg (fun w => x ⟨by omega, w.2⟩)]
      · rw [if_neg (show ¬ nI (h 4 i) < 99 from nI_nlt (b := 99) (by omega) (by omega))]
        refine ih (i + 1) ag (by omega) M f (fun t ht q => ?_)
        rw [e t ht q]
        by_cases x : t < i ∧ h 4 t < 99
        · rw [if_pos x, if_pos ⟨by omega, x.2⟩]
        · rw [if_neg x, if_neg (fun w => by
            by_cases y : t = i
            · subst y; exact z w.2
            · exact x ⟨by omega, w.2⟩)]
    · rw [if_neg (by rw [decide_eq_true_eq]; exact p)]
      refine ih (i + 1) ag (by omega) M f (fun t ht q => ?_)
      rw [e t ht q]
      by_cases x : t < i ∧ h 4 t < 99
      · rw [if_pos x, if_pos ⟨by omega, x.2⟩]
      · rw [if_neg x, if_neg (fun w => by
          by_cases y : t = i
          · subst y; exact p q
          · exact x ⟨by omega, w.2⟩)]
end RA
