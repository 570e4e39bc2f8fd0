def gAt (k : GH) (o c t : Nat) : Bool := decide (0 < k 0 t ∧ k 1 t = o ∧ k 2 t = c)
/-- how many of a CAR are ahead of one -/
def gRk (k : GH) (o c t : Nat) : Nat := fb_ct (fun u => gAt k o c u && decide (k 3 u < k 3 t)) 40
/-- the things of a CAR get another -/
def gRn (k : GH) (o c w d : Nat) : GH := fun a b => if gAt k o c b = true then (if a = 1 then w else if a = 2 then d else if a = 3 then gRk k o c b else k a b) else k a b
theorem gRn_n (k : GH) (o c w d : Nat) {b : Nat} (e : ¬ gAt k o c b = true) (a : Nat) : gRn k o c w d a b = k a b := by unfold gRn; rw [if_neg e]
theorem gRn_1 (k : GH) (o c w d : Nat) {b : Nat} (e : gAt k o c b = true) : gRn k o c w d 1 b = w := by unfold gRn; rw [if_pos e, if_pos rfl]
theorem gRn_2 (k : GH) (o c w d : Nat) {b : Nat} (e : gAt k o c b = true) : gRn k o c w d 2 b = d := by unfold gRn; rw [if_pos e, if_neg (by decide), if_pos rfl]
theorem gRn_3 (k : GH) (o c w d : Nat) {b : Nat} (e : gAt k o c b = true) : gRn k o c w d 3 b = gRk k o c b := by unfold gRn; rw [if_pos e, if_neg (by decide), if_neg (by decide), if_pos rfl]
theorem gRn_o (k : GH) (o c w d : Nat) {a : Nat} (e : a ≠ 1 ∧ a ≠ 2 ∧ a ≠ 3) (b : Nat) : gRn k o c w d a b = k a b := by
  unfold gRn
  by_cases q : gAt k o c b = true
  · rw [if_pos q, if_neg e.1, if_neg e.2.1, if_neg e.2.2]
  · rw [if_neg q]
section SC
variable {v : Nat} {h : GH} {sz tr ca pl ag mk lk rt st sT : Nat → Int32}
theorem r_isIn (hv : v < 22) (M : rM v h sz tr ca pl ag mk lk rt st sT) (N : iN h) {t o c : Nat} (ht : t < 40) (ho : o < 1000) (hc : c < 1000) : mX12_isIn (nI v) (nI t) (nI o) (nI c) sz tr ca = some (gAt h o c t) := by
  rw [s_isIn v hv sz tr ca t ht (nI o) (nI c)]
  unfold gAt
  congr 1
  rw [decide_eq_decide]
  exact r_in2 M N ht ho hc
theorem r_rn58 (hv : v < 22) (M : rM v h sz tr ca pl ag mk lk rt st sT) (N : iN h) {o c x : Nat} (ho : o < 1000) (hc : c < 1000) (hx : x < 40) (hx0 : 0 < h 0 x) (K) : ∀ k i (np im : Nat → Int32), i + k = 40 → np x = nI (fb_ct (fun u => gAt h o c u && decide (h 3 u < h 3 x)) i) →
    ∃ np', np' x = nI (gRk h o c x) ∧ (∀ t, t ≠ x → np' t = np t) ∧ mX12_renumbers_58 (nI v) (nI o) (nI c) sz tr ca pl x K k i np im = K np' im := by
  intro k
  induction k with
  | zero =>
    intro i np im hi e
    rw [show i = 40 by omega] at e
    exact ⟨np, e, fun _ _ => rfl, by rw [mX12_renumbers_58]⟩
  | succ k ih =>
    intro i np im hi e
    have hi40 : i < 40 := by omega
    rw [mX12_renumbers_58, r_isIn hv M N hi40 ho hc, obind, zc x (by omega), e]
    have hs := fb_ct_succ (fun u => gAt h o c u && decide (h 3 u < h 3 x)) i
    by_cases w : gAt h o c i = true
    · have w0 := of_decide_eq_true w
      have c1 := N.2.1 i hi40 w0.1
      have c2 := N.2.1 x hx hx0
      rw [if_pos w, zb_t v i hv hi40, if_pos rfl, zb_t v x hv hx, if_pos rfl, zc_t v i hv hi40, zc_t v x hv hx, (M.2.1 i hi40 w0.1).2.2.1, (M.2.1 x hx hx0).2.2.1]
      by_cases y : h 3 i < h 3 x
      · rw [if_pos (nI_lt y (by omega)), nI_1]
        rw [if_pos (show (gAt h o c i && decide (h 3 i < h 3 x)) = true by rw [w, decide_eq_true y]; rfl)] at hs
        obtain ⟨np', k1, k2, k3⟩ := ih (i + 1) (upd np x (nI (fb_ct (fun u => gAt h o c u && decide (h 3 u < h 3 x)) i + 1))) im (by omega) (by rw [pk_us, hs])
        exact ⟨np', k1, fun t e => by rw [k2 t e, pk_un e], k3⟩
      · rw [if_neg (nI_nlt (by omega) (by omega)), Int32.add_zero]
        rw [if_neg (show ¬ (gAt h o c i && decide (h 3 i < h 3 x)) = true by rw [w, decide_eq_false y]; decide)] at hs
        obtain ⟨np', k1, k2, k3⟩ := ih (i + 1) (upd np x (nI (fb_ct (fun u => gAt h o c u && decide (h 3 u < h 3 x)) i))) im (by omega) (by rw [pk_us, hs]; rfl)
        exact ⟨np', k1, fun t e => by rw [k2 t e, pk_un e], k3⟩
    · rw [if_neg w, Int32.add_zero]
      rw [if_neg (show ¬ (gAt h o c i && decide (h 3 i < h 3 x)) = true by rw [Bool.and_eq_true]; exact fun q => w q.1)] at hs
      obtain ⟨np', k1, k2, k3⟩ := ih (i + 1) (upd np x (nI (fb_ct (fun u => gAt h o c u && decide (h 3 u < h 3 x)) i))) im (by omega) (by rw [pk_us, hs]; rfl)
      exact ⟨np', k1, fun t e => by rw [k2 t e, pk_un e], k3⟩
theorem r_rn3 (hv : v < 22) (M : rM v h sz tr ca pl ag mk lk rt st sT) (N : iN h) {o c : Nat} (ho : o < 1000) (hc : c < 1000) (w d : Int32) : ∀ k i (np im : Nat → Int32), i + k = 40 → (∀ t, t < i → im t = if gAt h o c t = true then 1 else 0) → (∀ t, t < i → gAt h o c t = true → np t = nI (gRk h o c t)) →
    ∃ np' im', (∀ t, t < 40 → im' t = if gAt h o c t = true then 1 else 0) ∧ (∀ t, t < 40 → gAt h o c t = true → np' t = nI (gRk h o c t)) ∧ mX12_renumbers_3 (nI v) (nI o) (nI c) w d sz tr ca pl k i np im = mX12_renumbers_134 (nI v) w d 40 0 tr ca pl np' im' := by
  intro k
  induction k with
  | zero =>
    intro i np im hi e1 e2
    exact ⟨np, im, fun t ht => e1 t (by omega), fun t ht => e2 t (by omega), by rw [mX12_renumbers_3]⟩
  | succ k ih =>
    intro i np im hi e1 e2
    have hi40 : i < 40 := by omega
    rw [mX12_renumbers_3, r_isIn hv M N hi40 ho hc, obind]
    unfold mX12_renumbers_33
    rw [zc i (by omega), pk_us, pk_us]
    have e1' : ∀ x : Int32, x = (if gAt h o c i = true then 1 else 0) → ∀ t, t < i + 1 → upd im i x t = if gAt h o c t = true then 1 else 0 := by
      intro x hx t ht
      by_cases e : t = i
      · subst e; rw [pk_us, hx]
      · rw [pk_un e]; exact e1 t (by omega)
    by_cases z : gAt h o c i = true
    · rw [if_pos z, if_neg (show ¬ (1 : Int32) = 0 by decide)]
      obtain ⟨np', k1, k2, k3⟩ := r_rn58 hv M N ho hc hi40 (of_decide_eq_true z).1 (fun za_newPlace_3 za_isMoved_3 => mX12_renumbers_3 (nI v) (nI o) (nI c) w d sz tr ca pl k (i + 1) za_newPlace_3 za_isMoved_3) 40 0 (upd np i 0) (upd im i 1) rfl pk_us
      rw [k3]
      refine ih (i + 1) np' (upd im i 1) (by omega) (e1' 1 (by rw [if_pos z])) (fun t ht q => ?_)
      by_cases e : t = i
      · subst e; exact k1
      · rw [k2 t e, pk_un e]; exact e2 t (by omega) q
    · rw [if_neg z, if_pos rfl]
      refine ih (i + 1) np (upd im i 0) (by omega) (e1' 0 (by rw [if_neg z])) (fun t ht q => ?_)
      by_cases e : t = i
      · subst e; exact absurd q z
      · exact e2 t (by omega) q
theorem r_rn134 (hv : v < 22) (p : Nat → Bool) (w d : Int32) (np im : Nat → Int32) (him : ∀ t, t < 40 → im t = if p t = true then 1 else 0) : ∀ k i (tr ca pl tr1 ca1 pl1 : Nat → Int32), i + k = 40 → (lF v tr tr1 ∧ lF v ca ca1 ∧ lF v pl pl1) →
    (∀ t, t < 40 → tr1 (40 * v + t) = (if t < i ∧ p t = true then w else tr (40 * v + t)) ∧ ca1 (40 * v + t) = (if t < i ∧ p t = true then d else ca (40 * v + t)) ∧ pl1 (40 * v + t) = if t < i ∧ p t = true then np t else pl (40 * v + t)) →
    ∃ tr2 ca2 pl2, (lF v tr tr2 ∧ lF v ca ca2 ∧ lF v pl pl2) ∧ (∀ t, t < 40 → tr2 (40 * v + t) = (if p t = true then w else tr (40 * v + t)) ∧ ca2 (40 * v + t) = (if p t = true then d else ca (40 * v + t)) ∧ pl2 (40 * v + t) = if p t = true then np t else pl (40 * v + t)) ∧
      mX12_renumbers_134 (nI v) w d k i tr1 ca1 pl1 np im = some (tr2, ca2, pl2, np, im) := by
  intro k
  induction k with
  | zero =>
    intro i tr ca pl tr1 ca1 pl1 hi f e
    refine ⟨tr1, ca1, pl1, f, fun t ht => ?_, by rw [mX12_renumbers_134]⟩
    have ix : (t < i ∧ p t = true) ↔ p t = true := ⟨fun q => q.2, fun q => ⟨by omega, q⟩⟩
    have g := e t ht
    simp only [ix] at g
    exact g
  | succ k ih =>
    intro i tr ca pl tr1 ca1 pl1 hi f e
    have hi40 : i < 40 := by omega
    rw [mX12_renumbers_134, zc i (by omega), him i hi40]
    have ix : ∀ t, t ≠ i → ((t < i ∧ p t = true) ↔ (t < i + 1 ∧ p t = true)) := fun t e => ⟨fun q => ⟨by omega, q.2⟩, fun q => ⟨by omega, q.2⟩⟩
    by_cases z : p i = true
    · rw [if_pos z, if_neg (show ¬ (1 : Int32) = 0 by decide), zb_t v i hv hi40, if_pos rfl, zc_t v i hv hi40]
      refine ih (i + 1) tr ca pl _ _ _ (by omega) ⟨lF_tr f.1 (lF_up _ hi40 _), lF_tr f.2.1 (lF_up _ hi40 _), lF_tr f.2.2 (lF_up _ hi40 _)⟩ (fun t ht => ?_)
      by_cases y : t = i
      · subst y
        rw [pk_us, pk_us, pk_us, if_pos ⟨by omega, z⟩, if_pos ⟨by omega, z⟩, if_pos ⟨by omega, z⟩]; exact ⟨rfl, rfl, rfl⟩
      · rw [pk_un (by omega), pk_un (by omega), pk_un (by omega)]
        simp only [← ix t y]
        exact e t ht
    · rw [if_neg z, if_pos rfl]
      refine ih (i + 1) tr ca pl _ _ _ (by omega) f (fun t ht => ?_)
      by_cases y : t = i
      · subst y
        obtain ⟨a, b, c⟩ := e t ht
        rw [a, b, c, if_neg (fun q => z q.2), if_neg (fun q => z q.2), if_neg (fun q => z q.2), if_neg (fun q => z q.2), if_neg (fun q => z q.2), if_neg (fun q => z q.2)]; exact ⟨rfl, rfl, rfl⟩
      · simp only [← ix t y]
        exact e t ht
theorem r_renum (hv : v < 22) (M : rM v h sz tr ca pl ag mk lk rt st sT) (N : iN h) {o c w d : Nat} (ho : o < 1000) (hc : c < 1000) (np im : Nat → Int32) :
    ∃ tr' ca' pl' np' im', rM v (gRn h o c w d) sz tr' ca' pl' ag mk lk rt st sT ∧ (lF v tr tr' ∧ lF v ca ca' ∧ lF v pl pl') ∧ mX12_renumbers (nI v) (nI o) (nI c) (nI w) (nI d) sz tr ca pl np im = some (tr', ca', pl', np', im') := by
  unfold mX12_renumbers
  obtain ⟨np', im', e1, e2, e3⟩ := r_rn3 hv M N ho hc (nI w) (nI d) 40 0 np im rfl (fun t ht => by omega) (fun t ht => by omega)
  obtain ⟨tr2, ca2, pl2, f, g, q⟩ := r_rn134 hv (gAt h o c) (nI w) (nI d) np' im' e1 40 0 tr ca pl tr ca pl rfl ⟨lF_rf v _, lF_rf v _, lF_rf v _⟩ (fun t ht => by rw [if_neg (by omega), if_neg (by omega), if_neg (by omega)]; exact ⟨rfl, rfl, rfl⟩)
  refine ⟨tr2, ca2, pl2, np', im', ⟨fun t ht => ?_, fun t ht p => ?_, fun t ht e => ?_, fun j hj => by rw [gRn_o h o c w d (by decide)]; exact M.2.2.2.1 j hj, fun k hk => by rw [gRn_o h o c w d (by decide)]; exact M.2.2.2.2 k hk⟩, f, by rw [e3, q]⟩
  · rw [gRn_o h o c w d (by decide), gRn_o h o c w d (by decide)]; exact M.1 t ht
  · rw [gRn_o h o c w d (by decide)] at p
    rw [gRn_o h o c w d (a := 4) (by decide), gRn_o h o c w d (a := 5) (by decide)]
    obtain ⟨a1, a2, a3⟩ := g t ht
    have m := M.2.1 t ht p
    rw [a1, a2, a3]
    by_cases z : gAt h o c t = true
    · rw [gRn_1 h o c w d z, gRn_2 h o c w d z, gRn_3 h o c w d z, if_pos z, if_pos z, if_pos z, e2 t ht z]
      exact ⟨rfl, rfl, rfl, m.2.2.2⟩
    · rw [gRn_n h o c w d z, gRn_n h o c w d z, gRn_n h o c w d z, if_neg z, if_neg z, if_neg z]
      exact m
  · rw [gRn_o h o c w d (by decide)] at e ⊢
    exact M.2.2.1 t ht e
end SC
