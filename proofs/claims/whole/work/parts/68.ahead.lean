theorem gLp_mI (P : GP) : ∀ (k : Nat) (X : GM), fb_ct (gWt X.1) 40 ≤ k → mI X.1 X.2.1 X.2.2.1 → mI (gLp P k X).1 (gLp P k X).2.1 (gLp P k X).2.2.1 ∧ (gPk (gLp P k X).1).2 = 0 ∧ (gLp P k X).1 8 0 = X.1 8 0 := by
  intro k
  induction k with
  | zero =>
    intro X hc I
    refine ⟨I, ?_, rfl⟩
    by_cases e : (gPk X.1).2 = 0
    · exact e
    · obtain ⟨-, -, -, -, -, q⟩ := mI_mv (P := P) I (r := (gPk X.1).1) (t := (gPk X.1).2 - 1) (Prod.ext rfl (by show (gPk X.1).2 = _; omega))
      omega
  | succ k ih =>
    intro X hc I
    rw [gLp]
    by_cases e : (gPk X.1).2 = 0
    · rw [if_pos e]; exact ⟨I, e, rfl⟩
    · rw [if_neg e]
      obtain ⟨-, -, -, -, I', q⟩ := mI_mv (P := P) I (r := (gPk X.1).1) (t := (gPk X.1).2 - 1) (Prod.ext rfl (by show (gPk X.1).2 = _; omega))
      obtain ⟨a, b, c⟩ := ih _ (by omega) I'
      exact ⟨a, b, by rw [c, gMv_8]⟩
theorem gW_tick (P : GP) {g : GH} (W : gW g) : gW (gTick P g).1 ∧ (gTick P g).1 8 0 = g 8 0 + 1 := by
  by_cases hT : gTr g = 0
  · rw [gTick_0 hT]; exact ⟨gW_pa W, gPa_8 g⟩
  · cases hw : gWant g with
    | false =>
      rw [gTick_f hT hw]
      refine ⟨gW_pa (gW_sh (gSp_ft W hw).1), ?_⟩
      show gPa _ 8 0 = _
      rw [gPa_8, gSh_o _ (by decide), gDr_o g _ (by decide)]
    | true =>
      rw [gTick_e hT hw]
      obtain ⟨a, b, c⟩ := gLp_mI P 40 (g, gTr g, 0, true, 0, 0) (fb_ct_le _ 40) (mI_of W hT)
      have x8 : gSh (gFn (gX P g).1 (gX P g).2.2.1) 8 0 = g 8 0 := by rw [gFn_8]; exact c
      have w := gW_sh (gSp_fn a b)
      constructor
      · show gW (gPa (if gFu P g = true then _ else _))
        split
        · exact gW_pa (gW_mk w)
        · exact gW_pa w
      · show gPa _ 8 0 = _
        rw [gPa_8]
        split
        · rw [gMk_o _ (by decide), x8]
        · rw [x8]
/-- STEPS AHEAD -/
def gA (P : GP) (g : GH) : Nat → GH
  | 0 => g
  | n + 1 => (gTick P (gA P g n)).1
theorem gA_W (P : GP) {g : GH} (W : gW g) : ∀ n, gW (gA P g n) ∧ gA P g n 8 0 = g 8 0 + n
  | 0 => ⟨W, rfl⟩
  | n + 1 => by
    obtain ⟨a, b⟩ := gA_W P W n
    obtain ⟨c, d⟩ := gW_tick P a
    exact ⟨c, by rw [show gA P g (n + 1) = (gTick P (gA P g n)).1 from rfl, d, b]; omega⟩
def gThs (g : GH) : Nat := fb_ct (gTh g) 40
def gCars (g : GH) : Nat := fb_sm (gCa g) (gTr g)
def gSC (P : GP) (g : GH) (n : Nat) : Nat := fb_sm (fun i => (gTick P (gA P g i)).2.2.2.1) n
def gSF (P : GP) (g : GH) (n : Nat) : Nat := fb_sm (fun i => if (gTick P (gA P g i)).2.2.2.2 = true then 1 else 0) n
/-- how far one may look -/
def gR (g : GH) : Nat := if 999 - g 8 0 < 60 then 999 - g 8 0 else 60
/-- the first from 1 on; 0 if none -/
def ffs (p : Nat → Bool) : Nat → Nat
  | 0 => 0
  | n + 1 => if ffs p n = 0 ∧ p (n + 1) = true then n + 1 else ffs p n
theorem ffs_le (p : Nat → Bool) : ∀ n, ffs p n ≤ n
  | 0 => Nat.le_refl 0
  | n + 1 => by
    have := ffs_le p n
    rw [ffs]
    split <;> omega
theorem ffs_some {p : Nat → Bool} {m : Nat} : ∀ {n : Nat}, 1 ≤ m → m ≤ n → p m = true → (∀ k, 1 ≤ k → k < m → p k = false) → ffs p n = m := by
  intro n
  induction n with
  | zero => intro h1 h2; omega
  | succ n ih =>
    intro h1 h2 hp hn
    rw [ffs]
    by_cases e : m = n + 1
    · have : ffs p n = 0 := by
        have no : ∀ k, k ≤ n → ffs p k = 0 := by
          intro k
          induction k with
          | zero => intro _; rfl
          | succ k ihk =>
            intro hk
            rw [ffs, if_neg]
            · exact ihk (by omega)
            · rintro ⟨_, q⟩
              rw [hn (k + 1) (by omega) (by omega)] at q
              exact absurd q (by decide)
        exact no n (Nat.le_refl n)
      rw [if_pos ⟨this, by rw [← e]; exact hp⟩, e]
    · have := ih h1 (by omega) hp hn
      rw [if_neg (fun q => by omega), this]
theorem ffs_none {p : Nat → Bool} : ∀ {n : Nat}, (∀ k, 1 ≤ k → k ≤ n → p k = false) → ffs p n = 0 := by
  intro n
  induction n with
  | zero => intro _; rfl
  | succ n ih =>
    intro h
    rw [ffs, if_neg]
    · exact ih (fun k a b => h k a (by omega))
    · rintro ⟨_, q⟩
      rw [h (n + 1) (by omega) (by omega)] at q
      exact absurd q (by decide)
def gFl (P : GP) (g : GH) (t n : Nat) : Nat := ffs (fun k => !gTh (gA P g k) t) n
def gRb (g : GH) (t : Nat) : Bool := gTh g t && !gL g t
/-- all RUBBISH of now has FALLEN -/
def gCn (P : GP) (g : GH) (k : Nat) : Bool := !bex (fun t => gRb g t && gTh (gA P g k) t) 40 0
def gCl0 (P : GP) (g : GH) (n : Nat) : Int32 := if gCn P g 0 = true then 0 else bnz (ffs (gCn P g) n)
section CO
variable {g h : GH} {sz ag tr ca pl lk rt cs code cf cl : Nat → Int32} {fr : Nat → Int64} {th mk : Int64} {tn sp un : Int32} {P : GP}
theorem c_allCars {T : Nat} {C : Nat → Nat} (hT : T ≤ 42) (hcs : ∀ w, w < T → cs w = nI (C w)) : mX10_allCars (nI T) cs = nI (fb_sm C T) := by
  unfold mX10_allCars
  have go : ∀ k i, i + k = 42 → i ≤ T → mX10_allCars_4 (nI T) cs k i (nI (fb_sm C i)) = nI (fb_sm C T) := by
    intro k
    induction k with
    | zero =>
      intro i hi h
      have : i = T := by omega
      subst this
      rw [mX10_allCars_4, ite_self]
    | succ k ih =>
      intro i hi h
      rw [mX10_allCars_4]
      by_cases l : i < T
      · rw [if_pos (nI_lt l (by omega)), zc i (by omega), hcs i l, nI_add, ← fb_sm_succ]
        exact ih (i + 1) (by omega) (by omega)
      · have : i = T := by omega
        subst this
        rw [if_neg (nI_nlt (by omega) (by omega))]
  exact go 42 0 rfl (Nat.zero_le _)
theorem cY_40 (W : gW g) (Y : cY g sz ag tr ca pl lk rt cs fr th mk tn sp) : mX10_allCars tn cs = nI (gCars g) ∧ mJ13_bitCount_95d88 th = nI (gThs g) ∧ tn = nI (gTr g) := by
  obtain ⟨y1, y2, y3, y5, y6, y7, y8, y9, y10⟩ := Y
  have := gTr_40 W
  refine ⟨?_, zh_cnt y7, y9⟩
  rw [y9]
  exact c_allCars (by omega) y5
theorem c_count (W : gW h) (Y : cY h sz ag tr ca pl lk rt cs fr th mk tn sp) {n : Nat} (hn : n ≤ 60) (x y : Int32) (cn : Nat → Int32) : ∃ cn', mX4_count (nI n) x y cn th tn cs = cn' ∧ (cn' (5 * n) = nI (gTr h) ∧ cn' (5 * n + 1) = nI (gCars h) ∧ cn' (5 * n + 2) = nI (gThs h) ∧ cn' (5 * n + 3) = x ∧ cn' (5 * n + 4) = y) ∧ ∀ j, (j < 5 * n ∨ 5 * n + 5 ≤ j) → cn' j = cn j := by
  obtain ⟨a, b, c⟩ := cY_40 W Y
  unfold mX4_count
  have e0 : nI n * 5 = nI (5 * n) := by rw [show (5 : Int32) = nI 5 from rfl, pk_mul, Nat.mul_comm]
  rw [e0, show nI (5 * n) + 1 = nI (5 * n + 1) from nI_1 _, show nI (5 * n) + 2 = nI (5 * n + 2) from nI_add _ 2, show nI (5 * n) + 3 = nI (5 * n + 3) from nI_add _ 3, show nI (5 * n) + 4 = nI (5 * n + 4) from nI_add _ 4, a, b, s_put 305 _ (by omega) (by decide), xlet_eq, s_put 305 _ (by omega) (by decide), xlet_eq, s_put 305 _ (by omega) (by decide), xlet_eq, s_put 305 _ (by omega) (by decide), xlet_eq, s_put 305 _ (by omega) (by decide), xlet_eq]
  refine ⟨_, rfl, ⟨?_, ?_, ?_, ?_, ?_⟩, fun j hj => ?_⟩
  · rw [pk_un (by omega), pk_un (by omega), pk_un (by omega), pk_un (by omega), pk_us, c]
  · rw [pk_un (by omega), pk_un (by omega), pk_un (by omega), pk_us]
  · rw [pk_un (by omega), pk_un (by omega), pk_us]
  · rw [pk_un (by omega), pk_us]
  · rw [pk_us]
  · rw [pk_un (by omega), pk_un (by omega), pk_un (by omega), pk_un (by omega), pk_un (by omega)]
theorem c_note {gone : Int64} {G : Nat → Bool} (hG : zh gone G) (x : Int32) : ∀ k i (fa1 fa : Nat → Int32), i + k = 40 → (∀ t, t < 40 → fa1 t = if t < i ∧ G t = true ∧ fa t = -1 then x else fa t) → ∃ fa2, (∀ t, t < 40 → fa2 t = if G t = true ∧ fa t = -1 then x else fa t) ∧ mX4_noteFallen_3 gone x k i fa1 = fa2 := by
  intro k
  induction k with
  | zero =>
    intro i fa1 fa hi e
    refine ⟨fa1, fun t ht => ?_, by rw [mX4_noteFallen_3]⟩
    have ix : (t < i ∧ G t = true ∧ fa t = -1) ↔ (G t = true ∧ fa t = -1) := ⟨fun q => q.2, fun q => ⟨by omega, q⟩⟩
    rw [e t ht]; simp only [ix]
  | succ k ih =>
    intro i fa1 fa hi e
    have hi40 : i < 40 := by omega
    have ei := e i hi40
    rw [if_neg (fun q => absurd q.1 (Nat.lt_irrefl i))] at ei
    rw [mX4_noteFallen_3, zh_in hG hi40, zc i (by omega), ei]
    have skip : ¬ (G i = true ∧ fa i = -1) → ∀ t, t < 40 → fa1 t = if t < i + 1 ∧ G t = true ∧ fa t = -1 then x else fa t := by
      intro n t ht
      rw [e t ht]
      have ix : (t < i + 1 ∧ G t = true ∧ fa t = -1) ↔ (t < i ∧ G t = true ∧ fa t = -1) := ⟨fun q => ⟨by
        by_cases y : t = i
        · subst y; exact absurd q.2 n
        · omega, q.2⟩, fun q => ⟨by omega, q.2⟩⟩
      simp only [ix]
    by_cases z : G i = true
    · rw [if_pos z]
      by_cases y : fa i = -1
      · rw [if_pos y]
        refine ih (i + 1) _ fa (by omega) (fun t ht => ?_)
        by_cases w : t = i
        · subst w; rw [pk_us, if_pos ⟨by omega, z, y⟩]
        · rw [pk_un w, e t ht]
          have ix : (t < i + 1 ∧ G t = true ∧ fa t = -1) ↔ (t < i ∧ G t = true ∧ fa t = -1) := ⟨fun q => ⟨by omega, q.2⟩, fun q => ⟨by omega, q.2⟩⟩
          simp only [ix]
      · rw [if_neg y]
        exact ih (i + 1) _ fa (by omega) (skip (fun q => y q.2))
    · rw [if_neg z]
      exact ih (i + 1) _ fa (by omega) (skip (fun q => z q.1))
/-- the tables of what is AHEAD, as far as n -/
def oT (P : GP) (g : GH) (n : Nat) (cn fa : Nat → Int32) : Prop :=
  (∀ k, k ≤ n → cn (5 * k) = nI (gTr (gA P g k)) ∧ cn (5 * k + 1) = nI (gCars (gA P g k)) ∧ cn (5 * k + 2) = nI (gThs (gA P g k)) ∧ cn (5 * k + 3) = nI (gSC P g k) ∧ cn (5 * k + 4) = nI (gSF P g k)) ∧
  (∀ t, t < 40 → 0 < g 0 t → fa t = bnz (gFl P g t n))
theorem cY_copy (W : gW g) (Y : cY g sz ag tr ca pl lk rt cs fr th mk tn sp) (sz0 ag0 tr0 ca0 pl0 lk0 rt0 cs0 : Nat → Int32) (fr0 : Nat → Int64) : ∃ sz' ag' tr' ca' pl' lk' rt' cs' fr', mX10_copy sz0 ag0 tr0 ca0 pl0 lk0 rt0 cs0 fr0 th mk tn sp sz ag tr ca pl lk rt cs fr = (th, mk, tn, sp, sz', ag', tr', ca', pl', lk', rt', cs', fr') ∧ cY g sz' ag' tr' ca' pl' lk' rt' cs' fr' th mk tn sp := by
  obtain ⟨y1, y2, ⟨y3, y4⟩, y5, y6, y7, y8, y9, y10⟩ := Y
  have := gTr_40 W
  have c : ∀ {α : Type} (f f0 : Nat → α) (n j : Nat), j < n → va_cpy f f0 0 0 n j = f j := fun f f0 n j hj => by
    rw [pk_cpy_in (Nat.zero_le _) (by omega), Nat.zero_add, Nat.sub_zero]
  unfold mX10_copy
  refine ⟨_, _, _, _, _, _, _, _, _, rfl, fun t ht => by rw [c _ _ _ _ ht]; exact y1 t ht, fun t ht p => ?_, ⟨fun j hj => by rw [c _ _ _ _ hj]; exact y3 j hj, fun k hk => by rw [c _ _ _ _ hk]; exact y4 k hk⟩, fun w hw => by rw [c _ _ _ _ (by omega)]; exact y5 w hw, fun t ht => by rw [c _ _ _ _ ht]; exact y6 t ht, y7, y8, y9, y10⟩
  rw [c _ _ _ _ ht, c _ _ _ _ ht, c _ _ _ _ ht, c _ _ _ _ ht]
  exact y2 t ht p
end CO
