/-! THE WORLD OF BOTH SIDES: numbers by place, rows by place, slots of what was; the class's places as its cells are numbered, the reference's from 200 on -/
def wu {α : Type} (f : Nat → α) (k : Nat) (v : α) : Nat → α := fun j => cond (Nat.beq j k) v (f j)
theorem wu_s {α : Type} (f : Nat → α) (k : Nat) (v : α) : wu f k v k = v := by
  unfold wu
  rw [Nat.beq_refl]
  rfl
theorem wu_n {α : Type} (f : Nat → α) {k j : Nat} (v : α) (h : j ≠ k) : wu f k v j = f j := by
  unfold wu
  cases e : Nat.beq j k with
  | true => exact absurd (Nat.eq_of_beq_eq_true e) h
  | false => rfl
/-- a slot: a yard and a diary -/
abbrev QT : Type := Int64 × Int64 × Int32 × Int32 × (Nat → Int32) × (Nat → Int32) × (Nat → Int32) × (Nat → Int32) × (Nat → Int32) × (Nat → Int32) × (Nat → Int32) × (Nat → Int32) × (Nat → Int64) × Int32 × (Nat → Int32)
def qY (g : GH) (q : QT) : Prop := cY g q.2.2.2.2.1 q.2.2.2.2.2.1 q.2.2.2.2.2.2.1 q.2.2.2.2.2.2.2.1 q.2.2.2.2.2.2.2.2.1 q.2.2.2.2.2.2.2.2.2.1 q.2.2.2.2.2.2.2.2.2.2.1 q.2.2.2.2.2.2.2.2.2.2.2.1 q.2.2.2.2.2.2.2.2.2.2.2.2.1 q.1 q.2.1 q.2.2.1 q.2.2.2.1
def qK (K : GK) (q : QT) : Prop := cK K q.2.2.2.2.2.2.2.2.2.2.2.2.2.1 q.2.2.2.2.2.2.2.2.2.2.2.2.2.2
/-- the tape -/
def vT (n : Nat) (tx : Nat → Nat) (I : Nat → Int32) (A : Nat → Nat → Int32) : Prop := kTp n tx (A 1) (A 201) ∧ (I 1) = nI n ∧ (I 20001) = nI n
/-- what was refused -/
def vF (A : Nat → Nat → Int32) : Prop := ∀ j, j < 6 → (A 222) j = (A 77) j
/-- the SEED -/
def vS (s : Nat) (I : Nat → Int32) (J : Nat → Int64) : Prop := s < 2 ^ 31 ∧ (I 14) = nI s ∧ (J 20057) = lN s
/-- the fault -/
def vE (I : Nat → Int32) : Prop := (I 20010) = (I 203) ∧ (I 20011) = (I 204)
/-- rows MET -/
def vM (m : Nat) (R : Nat → Nat) (I : Nat → Int32) (A : Nat → Nat → Int32) : Prop := gMet m R ∧ cRow m R (I 7000) (A 72) ∧ rMet m R (I 20073) (A 244) (A 245) (A 246)
/-- the IMAGE -/
def vI (m : Nat) (I : Nat → Int32) (A : Nat → Nat → Int32) : Prop := m ≤ 411 ∧ (I 7501) = nI m ∧ (I 20081) = nI m ∧ iBy m (A 76) (A 250)
/-- the plan in force: where it comes from -/
def vP0 (b U : Nat) (I : Nat → Int32) (A : Nat → Nat → Int32) (M : Nat → Nat → Int64) : Prop :=
  (U = 0 ∧ (I 1600) = 0 ∧ (I 1601) = 0 ∧ (I 1603) = 0 ∧ (∀ w, w < 3 → (A 25) w = 0) ∧ (A 202) b = 0 ∧ (A 203) b = 0 ∧ (A 210) b = 0 ∧ ∀ w, w < 3 → (A 211) (3 * b + w) = -1) ∨
  ∃ (P : NP) (L : List (Nat × Nat)), U = P 0 0 ∧ wPl b P L (I 1600) (I 1601) (I 1602) (I 1603) (I 1604) (I 1605) (A 17) (A 18) (A 19) (A 20) (A 21) (A 22) (A 23) (A 24) (A 25) (tB (A 202) (A 203) (A 204) (A 205) (A 206) (A 207) (A 208) (A 209) (A 210) (A 211) (A 212) (A 213) (A 214)) (M 215)
abbrev GE : Type := Nat → Nat → Nat → Nat → Bool
/-- the plan in force: what it means -/
def vP1 (b U : Nat) (P : GP) (E : GE) (I : Nat → Int32) (A : Nat → Nat → Int32) (M : Nat → Nat → Int64) : Prop :=
  P.2.2 = U ∧ U ≤ 99 ∧ (I 1600) = nI U ∧ (A 202) b = nI U ∧ (∃ H, H ≤ 100 ∧ (I 1601) = nI H ∧ (A 210) b = nI H) ∧ (∃ m, m ≤ 24 ∧ (I 1603) = nI m ∧ (A 203) b = nI m ∧ kNm b m (A 17) (M 215)) ∧
  cF (A 23) (A 24) (A 25) P ∧ rF b (A 211) (A 212) (A 213) (A 214) P ∧ cE (A 23) (A 24) (A 25) E ∧ rE b (A 211) (A 212) (A 213) (A 214) E
def vP (b U : Nat) (P : GP) (E : GE) (I : Nat → Int32) (B : Nat → Bool) (A : Nat → Nat → Int32) (M : Nat → Nat → Int64) : Prop :=
  b < 2 ∧ (I 20013) = nI b ∧ (B 20042) = decide (0 < U) ∧ vP0 b U I A M ∧ vP1 b U P E I A M
/-- without a heap there is no thing -/
def vZ (U : Nat) (g : GH) : Prop := U = 0 → ∀ t, t < 40 → g 0 t = 0
/-- the heap as it is -/
def vG (U : Nat) (g : GH) (K : GK) (I : Nat → Int32) (J : Nat → Int64) (A : Nat → Nat → Int32) (M : Nat → Nat → Int64) : Prop :=
  gW g ∧ g 8 0 ≤ 999 ∧ vZ U g ∧ rS 0 g K (A 223) (A 224) (A 225) (A 226) (A 227) (A 228) (A 229) (A 230) (A 231) (A 232) (A 233) ∧
  cY g (A 27) (A 28) (A 29) (A 30) (A 31) (A 32) (A 33) (A 34) (M 35) (J 2609) (J 2610) (I 2611) (I 2612) ∧ cK K (I 6200) (A 63)
/-- how it was: the reference's layers, the class's slots -/
def vUr (F n : Nat) (gs : Nat → GH) (Ks : Nat → GK) (so sz tr ca pl ag mk lk rt km kr : Nat → Int32) : Prop := ∀ i, i < n → rS (2 + (F + i) % 20) (gs i) (Ks i) so sz tr ca pl ag mk lk rt km kr
def vUc (U n q : Nat) (gs : Nat → GH) (Ks : Nat → GK) (Q : Nat → QT) : Prop := ∀ i, i < n → gW (gs i) ∧ gs i 8 0 ≤ 999 ∧ vZ U (gs i) ∧ qY (gs i) (Q ((q + 20 - n + i) % 20)) ∧ qK (Ks i) (Q ((q + 20 - n + i) % 20))
def vU (U F n q : Nat) (gs : Nat → GH) (Ks : Nat → GK) (I : Nat → Int32) (A : Nat → Nat → Int32) (Q : Nat → QT) : Prop :=
  (F < 20 ∧ n ≤ 20 ∧ q < 20) ∧ ((I 6400) = nI n ∧ (I 6401) = nI q ∧ (I 20055) = nI F ∧ (I 20056) = nI n) ∧ vUr F n gs Ks (A 223) (A 224) (A 225) (A 226) (A 227) (A 228) (A 229) (A 230) (A 231) (A 232) (A 233) ∧ vUc U n q gs Ks Q
/-- a number of a change that was, or none -/
def vO1 (c : Nat) (x : Int32) : Prop := x = -1 ∨ ∃ k, k ≤ c ∧ x = nI k
/-- the tables of what is AHEAD, and of a GUESS -/
def vO (N : Nat) (P : GP) (g : GH) (I : Nat → Int32) (A : Nat → Nat → Int32) : Prop :=
  ∃ c, c ≤ N ∧ (I 15) = nI c ∧ vO1 c (I 6704) ∧ vO1 c (I 7008) ∧
  ((I 6704) = (I 15) → (I 6702) = gCl0 P g (gR g) ∧ (I 6703) = nI (gR g) ∧ oT P g (gR g) (A 68) (A 69)) ∧
  (∀ t, t < 40 → (I 7008) = (I 15) → (I 7006) = nI t → ∃ D, (I 7007) = nI D ∧ D ≤ 20 ∧ (I 7005) = nI P.2.2 ∧ gT2 P g t D (P.2.2 + 1) (A 73))
/-- the world of both sides, N calls done -/
def vW (N : Nat) (I : Nat → Int32) (J : Nat → Int64) (B : Nat → Bool) (A : Nat → Nat → Int32) (M : Nat → Nat → Int64) (Q : Nat → QT) : Prop := ∃ n tx s b U P E g K F un q gs Ks m R mi, vT n tx I A ∧ vF A ∧ vS s I J ∧ vE I ∧ vP b U P E I B A M ∧ vG U g K I J A M ∧ vU U F un q gs Ks I A Q ∧ vO N P g I A ∧ vM m R I A ∧ vI mi I A

theorem vUr_y {v F n : Nat} {gs : Nat → GH} {Ks : Nat → GK} {so sz tr ca pl ag mk lk rt km kr so1 sz1 tr1 ca1 pl1 ag1 mk1 lk1 rt1 km1 kr1 : Nat → Int32} (hv : v < 2) (Y : rY v so sz tr ca pl ag mk lk rt km kr so1 sz1 tr1 ca1 pl1 ag1 mk1 lk1 rt1 km1 kr1) (h : vUr F n gs Ks so sz tr ca pl ag mk lk rt km kr) : vUr F n gs Ks so1 sz1 tr1 ca1 pl1 ag1 mk1 lk1 rt1 km1 kr1 := fun i hi => Y _ _ _ (by omega) (h i hi)
/-- with one more that was, the eldest goes when there are 20 -/
def kG {α : Type} (n : Nat) (x : α) (f : Nat → α) : Nat → α := fun i => if i + 1 = pU n then x else if n = 20 then f (i + 1) else f i
theorem vUr_keep {F n : Nat} {g : GH} {K : GK} {gs : Nat → GH} {Ks : Nat → GK} {so sz tr ca pl ag mk lk rt km kr so1 sz1 tr1 ca1 pl1 ag1 mk1 lk1 rt1 km1 kr1 : Nat → Int32} (hF : F < 20) (hn : n ≤ 20) (h : vUr F n gs Ks so sz tr ca pl ag mk lk rt km kr) (S : rS (2 + (F + n) % 20) g K so1 sz1 tr1 ca1 pl1 ag1 mk1 lk1 rt1 km1 kr1)
    (Y : ∀ u g' K', u ≠ 0 → u ≠ 2 + (F + n) % 20 → rS u g' K' so sz tr ca pl ag mk lk rt km kr → rS u g' K' so1 sz1 tr1 ca1 pl1 ag1 mk1 lk1 rt1 km1 kr1) : vUr (pF F n) (pU n) (kG n g gs) (kG n K Ks) so1 sz1 tr1 ca1 pl1 ag1 mk1 lk1 rt1 km1 kr1 := by
  intro i hi
  by_cases e : n = 20
  · subst e
    have hU : pU 20 = 20 := rfl
    have hP : pF F 20 = (F + 1) % 20 := rfl
    rw [hU] at hi
    rw [hP]
    by_cases e2 : i + 1 = 20
    · have k1 : kG 20 g gs i = g := if_pos e2
      have k2 : kG 20 K Ks i = K := if_pos e2
      rw [k1, k2, show 2 + ((F + 1) % 20 + i) % 20 = 2 + (F + 20) % 20 by omega]
      exact S
    · have k1 : kG 20 g gs i = gs (i + 1) := (if_neg e2).trans (if_pos rfl)
      have k2 : kG 20 K Ks i = Ks (i + 1) := (if_neg e2).trans (if_pos rfl)
      rw [k1, k2, show 2 + ((F + 1) % 20 + i) % 20 = 2 + (F + (i + 1)) % 20 by omega]
      exact Y _ _ _ (by omega) (by omega) (h (i + 1) (by omega))
  · have hU : pU n = n + 1 := if_neg e
    have hP : pF F n = F := if_neg e
    rw [hU] at hi
    rw [hP]
    by_cases e2 : i = n
    · subst e2
      have k1 : kG i g gs i = g := if_pos hU.symm
      have k2 : kG i K Ks i = K := if_pos hU.symm
      rw [k1, k2]
      exact S
    · have e3 : ¬ i + 1 = pU n := by rw [hU]; omega
      have k1 : kG n g gs i = gs i := (if_neg e3).trans (if_neg e)
      have k2 : kG n K Ks i = Ks i := (if_neg e3).trans (if_neg e)
      rw [k1, k2]
      exact Y _ _ _ (by omega) (by omega) (h i (by omega))
theorem vUc_keep {U n q : Nat} {g : GH} {K : GK} {gs : Nat → GH} {Ks : Nat → GK} {Q : Nat → QT} {z : QT} (hq : q < 20) (hn : n ≤ 20) (h : vUc U n q gs Ks Q) (W : gW g) (h8 : g 8 0 ≤ 999) (Z : vZ U g) (Y : qY g z) (D : qK K z) : vUc U (pU n) ((q + 1) % 20) (kG n g gs) (kG n K Ks) (wu Q q z) := by
  intro i hi
  by_cases e : n = 20
  · subst e
    have hU : pU 20 = 20 := rfl
    rw [hU] at hi ⊢
    by_cases e2 : i + 1 = 20
    · have k1 : kG 20 g gs i = g := if_pos e2
      have k2 : kG 20 K Ks i = K := if_pos e2
      rw [k1, k2, show ((q + 1) % 20 + 20 - 20 + i) % 20 = q by omega, wu_s]
      exact ⟨W, h8, Z, Y, D⟩
    · have k1 : kG 20 g gs i = gs (i + 1) := (if_neg e2).trans (if_pos rfl)
      have k2 : kG 20 K Ks i = Ks (i + 1) := (if_neg e2).trans (if_pos rfl)
      rw [k1, k2, wu_n Q z (show ((q + 1) % 20 + 20 - 20 + i) % 20 ≠ q by omega), show ((q + 1) % 20 + 20 - 20 + i) % 20 = (q + 20 - 20 + (i + 1)) % 20 by omega]
      exact h (i + 1) (by omega)
  · have hU : pU n = n + 1 := if_neg e
    rw [hU] at hi ⊢
    by_cases e2 : i = n
    · subst e2
      have k1 : kG i g gs i = g := if_pos hU.symm
      have k2 : kG i K Ks i = K := if_pos hU.symm
      rw [k1, k2, show ((q + 1) % 20 + 20 - (i + 1) + i) % 20 = q by omega, wu_s]
      exact ⟨W, h8, Z, Y, D⟩
    · have e3 : ¬ i + 1 = pU n := by rw [hU]; omega
      have k1 : kG n g gs i = gs i := (if_neg e3).trans (if_neg e)
      have k2 : kG n K Ks i = Ks i := (if_neg e3).trans (if_neg e)
      rw [k1, k2, wu_n Q z (show ((q + 1) % 20 + 20 - (n + 1) + i) % 20 ≠ q by omega), show ((q + 1) % 20 + 20 - (n + 1) + i) % 20 = (q + 20 - n + i) % 20 by omega]
      exact h i (by omega)
theorem vO1_up {c d : Nat} {x : Int32} (h : vO1 c x) (hcd : c ≤ d) : vO1 d x := h.elim Or.inl (fun ⟨k, h1, h2⟩ => Or.inr ⟨k, Nat.le_trans h1 hcd, h2⟩)
/-- a number of a change that was is not that of the next -/
theorem vO1_ne {c : Nat} {x : Int32} (h : vO1 c x) (hc : c < 100000) : ¬ x = nI c + 1 := by
  intro e
  have e2 : (nI c + 1 : Int32) = nI (c + 1) := nI_1 c
  rw [e2] at e
  rcases h with h | ⟨k, h1, h2⟩
  · exact nI_m1 (show c + 1 < 2 ^ 31 by omega) (e.symm.trans h)
  · have := (nI_eq (a := k) (b := c + 1) (by omega) (by omega)).mp (h2.symm.trans e)
    omega
theorem vO_up {N : Nat} {P : GP} {g : GH} {I : Nat → Int32} {A : Nat → Nat → Int32} (h : vO N P g I A) : vO (N + 1) P g I A := by
  obtain ⟨c, h1, h2⟩ := h
  exact ⟨c, by omega, h2⟩
/-- without a thing a yard with the same sizes has none -/
theorem vZ_sz {U : Nat} {g g' : GH} (Z : vZ U g) (W : gW g) (W' : gW g') {sz : Nat → Int32} (h : ∀ t, t < 40 → sz t = nI (g 0 t)) (h' : ∀ t, t < 40 → sz t = nI (g' 0 t)) : vZ U g' := fun u t ht => by
  have e := (h t ht).symm.trans (h' t ht)
  have := (nI_eq (a := g 0 t) (b := g' 0 t) (by have := (W.1 t ht).1; omega) (by have := (W'.1 t ht).1; omega)).mp e
  rw [← this]
  exact Z u t ht
theorem vZ_no {U : Nat} {g : GH} (Z : vZ U g) {t : Nat} (ht : t < 40) (h0 : 0 < g 0 t) : 0 < U := by
  by_cases u : U = 0
  · have := Z u t ht
    omega
  · omega

theorem c_run0 {code cf cl : Nat → Int32} (h : ∀ w, w < 3 → cl w = 0) {w : Nat} (hw : w < 3) (tp : Int32) (fa sk : Nat → Int32) : mX9_run (nI w) tp fa sk code cf cl = ((if w = 2 then fa 1 else if 3 < fa 2 then 1 else 0), tp, sk) := by
  unfold mX9_run
  rw [s_at 3 w hw (by decide), h w hw, if_neg (by decide)]
  unfold mX9_withoutText
  rw [show mX11_at 4 (1 : Int32) fa = fa 1 from s_at 4 1 (by decide) (by decide) fa, show mX11_at 4 (2 : Int32) fa = fa 2 from s_at 4 2 (by decide) (by decide) fa]
  by_cases h2 : w = 2
  · rw [if_pos h2, if_pos (show nI w = 2 by rw [h2]; rfl)]
  · rw [if_neg h2, if_neg (show ¬ nI w = 2 from fun z => h2 ((nI_eq (b := 2) (by omega) (by decide)).mp z))]
theorem pop3 (c : Nat) (hc : c < 2147483648) : ((if 3 < nI c then 1 else 0 : Int32) = 0 ↔ decide (3 < c) = false) := by
  by_cases q : 3 < c
  · rw [if_pos (show (3 : Int32) < nI c from nI_lt (a := 3) q hc), decide_eq_true q]
    exact ⟨fun z => absurd z (by decide), fun z => absurd z (by decide)⟩
  · rw [if_neg (show ¬ (3 : Int32) < nI c from nI_nlt (b := c) (a := 3) (by omega) (by decide)), decide_eq_false q]
    exact ⟨fun _ => rfl, fun _ => rfl⟩
/-- without a formula -/
theorem cF_0 {code cf cl : Nat → Int32} (h : ∀ w, w < 3 → cl w = 0) : cF code cf cl (fun _ _ c _ => decide (3 < c), fun _ z _ _ => z, 0) := by
  intro a z c d ha hz hc hd fa f0 f1 f2 f3
  refine ⟨fun tp sk => ⟨_, _, _, c_run0 h (w := 0) (by decide) tp fa sk, ?_⟩, fun tp sk => ⟨_, _, _, c_run0 h (w := 2) (by decide) tp fa sk, ?_⟩⟩
  · rw [if_neg (by decide), f2]
    exact pop3 c (by omega)
  · rw [if_pos rfl, f1, if_neg (nI_pos (by omega)), if_neg (show ¬ (99 : Int32) < nI z from nI_nlt (b := z) (a := 99) hz (by decide))]
theorem cE_0 {code cf cl : Nat → Int32} (h : ∀ w, w < 3 → cl w = 0) : cE code cf cl (fun _ _ c _ => decide (3 < c)) := by
  intro a z c d ha hz hc hd fa f0 f1 f2 f3 tp sk
  refine ⟨_, _, _, c_run0 h (w := 1) (by decide) tp fa sk, ?_⟩
  rw [if_neg (by decide), f2]
  exact pop3 c (by omega)
theorem rF_0 {b : Nat} {sf : Nat → Int32} (sb cs cv : Nat → Int32) (h : ∀ w, w < 3 → sf (3 * b + w) = -1) : rF b sf sb cs cv (fun _ _ c _ => decide (3 < c), fun _ z _ _ => z, 0) := by
  intro a z c d ha hz hc hd
  refine ⟨hz, Or.inl ⟨h 0 (by decide), ?_⟩, Or.inl ⟨h 2 (by decide), rfl⟩⟩
  show 3 < c ↔ decide (3 < c) = true
  rw [decide_eq_true_iff]
theorem rE_0 {b : Nat} {sf : Nat → Int32} (sb cs cv : Nat → Int32) (h : ∀ w, w < 3 → sf (3 * b + w) = -1) : rE b sf sb cs cv (fun _ _ c _ => decide (3 < c)) := by
  intro a z c d ha hz hc hd
  refine Or.inl ⟨h 1 (by decide), ?_⟩
  rw [decide_eq_true_iff]
section VP
variable {b U : Nat} {I : Nat → Int32} {A : Nat → Nat → Int32} {M : Nat → Nat → Int64}
/-- what the plan in force means, out of where it comes from -/
theorem vP1_of (hb : b < 2) (h : vP0 b U I A M) : ∃ P E, vP1 b U P E I A M := by
  rcases h with ⟨u, h1, h2, h3, h4, h5, h6, h7, h8⟩ | ⟨PP, L, u, hw⟩
  · subst u
    refine ⟨(fun _ _ c _ => decide (3 < c), fun _ z _ _ => z, 0), fun _ _ c _ => decide (3 < c), rfl, by omega, h1, h5, ⟨0, by omega, h2, h7⟩, ⟨0, by omega, h3, h6, fun t ht => absurd ht (by omega)⟩, cF_0 h4, rF_0 _ _ _ h8, cE_0 h4, rE_0 _ _ _ h8⟩
  · obtain ⟨o1, o2, o3, o4, ⟨du, hc⟩, tx, n, CS0, CV0, trd, cds, hR⟩ := hw
    have hN := k_names hc hR
    obtain ⟨G, E, g1, g2, g3, g4, g5⟩ := f_all o1 o3 o2 hc hR hb
    obtain ⟨c0, c1, c2, c3, c4, -⟩ := hc
    obtain ⟨r0, r1, r2, r3, -⟩ := hR
    obtain ⟨p0, p1, p2, p3, -⟩ := o1
    subst u
    exact ⟨G, E, g1, p0, c0, r0, ⟨PP 0 1, p1, c1, r3⟩, ⟨PP 0 3, p3, c3, r1, hN⟩, g2, g3, g4, g5⟩
/-- formulas of the reference that mean what the class's mean, mean all that these mean -/
theorem rF_cF {code cf cl sf sb cs cv : Nat → Int32} {P P' : GP} (h : cF code cf cl P) (h' : cF code cf cl P') (hb : ∀ a z c d : Nat, a ≤ 1000 → z ≤ 99 → c ≤ 200 → d ≤ 99 → P.2.1 a z c d ≤ 99) (r : rF b sf sb cs cv P') : rF b sf sb cs cv P := by
  intro a z c d ha hz hc hd
  obtain ⟨r0, r1, r2⟩ := r a z c d ha hz hc hd
  have f0 := h a z c d ha hz hc hd (fa4 (nI a) (nI z) (nI c) (nI d)) rfl rfl rfl rfl
  have f1 := h' a z c d ha hz hc hd (fa4 (nI a) (nI z) (nI c) (nI d)) rfl rfl rfl rfl
  have e1 : P.1 a z c d = P'.1 a z c d := by
    obtain ⟨x, tp, sk, x1, x2⟩ := f0.1 0 (fun _ => 0)
    obtain ⟨y, tp2, sk2, y1, y2⟩ := f1.1 0 (fun _ => 0)
    rw [x1] at y1
    have : x = y := congrArg Prod.fst y1
    subst this
    cases e : P.1 a z c d <;> cases e' : P'.1 a z c d <;> first | rfl | (exfalso; rw [e] at x2; rw [e'] at y2; have w := y2.symm.trans x2; first | exact absurd (w.mp rfl) (by decide) | exact absurd (w.mpr rfl) (by decide))
  have e2 : P.2.1 a z c d = P'.2.1 a z c d := by
    obtain ⟨x, tp, sk, x1, x2⟩ := f0.2 0 (fun _ => 0)
    obtain ⟨y, tp2, sk2, y1, y2⟩ := f1.2 0 (fun _ => 0)
    rw [x1] at y1
    have : x = y := congrArg Prod.fst y1
    subst this
    have b1 := hb a z c d ha hz hc hd
    exact (nI_eq (by omega) (by omega)).mp (x2.symm.trans y2)
  rw [e1, e2]
  exact ⟨r0, r1, r2⟩
theorem rE_cE {code cf cl sf sb cs cv : Nat → Int32} {E E' : GE} (h : cE code cf cl E) (h' : cE code cf cl E') (r : rE b sf sb cs cv E') : rE b sf sb cs cv E := by
  intro a z c d ha hz hc hd
  have r1 := r a z c d ha hz hc hd
  have f0 := h a z c d ha hz hc hd (fa4 (nI a) (nI z) (nI c) (nI d)) rfl rfl rfl rfl 0 (fun _ => 0)
  have f1 := h' a z c d ha hz hc hd (fa4 (nI a) (nI z) (nI c) (nI d)) rfl rfl rfl rfl 0 (fun _ => 0)
  have e1 : E a z c d = E' a z c d := by
    obtain ⟨x, tp, sk, x1, x2⟩ := f0
    obtain ⟨y, tp2, sk2, y1, y2⟩ := f1
    rw [x1] at y1
    have : x = y := congrArg Prod.fst y1
    subst this
    cases e : E a z c d <;> cases e' : E' a z c d <;> first | rfl | (exfalso; rw [e] at x2; rw [e'] at y2; have w := y2.symm.trans x2; first | exact absurd (w.mp rfl) (by decide) | exact absurd (w.mpr rfl) (by decide))
  rw [e1]
  exact r1
end VP

