/-- the CAR of those that STAYED -/
def gPc (h : GH) (s : Nat) : Nat := bmx (fun t => decide (0 < h 0 t ∧ h 9 t ≠ 1 ∧ h 1 t = s - 1)) (h 2) 40
/-- they are put there, their places as they were -/
def gPq (h : GH) (s : Nat) : GH := fun a b =>
  if s ≠ 0 ∧ h 9 b = 1 then (if a = 1 then s - 1 else if a = 2 then gPc h s else if a = 9 then 0 else h a b) else h a b
theorem gPq_n (h : GH) (s : Nat) {b : Nat} (e : ¬ (s ≠ 0 ∧ h 9 b = 1)) (a : Nat) : gPq h s a b = h a b := by unfold gPq; rw [if_neg e]
theorem gPq_1 (h : GH) (s : Nat) {b : Nat} (e : s ≠ 0 ∧ h 9 b = 1) : gPq h s 1 b = s - 1 := by unfold gPq; rw [if_pos e, if_pos rfl]
theorem gPq_2 (h : GH) (s : Nat) {b : Nat} (e : s ≠ 0 ∧ h 9 b = 1) : gPq h s 2 b = gPc h s := by unfold gPq; rw [if_pos e, if_neg (by decide), if_pos rfl]
theorem gPq_9 (h : GH) (s : Nat) {b : Nat} (e : s ≠ 0 ∧ h 9 b = 1) : gPq h s 9 b = 0 := by unfold gPq; rw [if_pos e, if_neg (by decide), if_neg (by decide), if_pos rfl]
theorem gPq_o (h : GH) (s : Nat) {a : Nat} (e : a ≠ 1 ∧ a ≠ 2 ∧ a ≠ 9) (b : Nat) : gPq h s a b = h a b := by
  unfold gPq
  by_cases q : s ≠ 0 ∧ h 9 b = 1
  · rw [if_pos q, if_neg e.1, if_neg e.2.1, if_neg e.2.2]
  · rw [if_neg q]
theorem s_stirs_2 : ∀ k i (a : Nat → Int32), i + k = 40 → (∀ t, t < i → a t = 0) → ∀ t, t < 40 → mX12_stirs_2 k i a t = 0 := by
  intro k
  induction k with
  | zero => intro i a hi h t ht; rw [mX12_stirs_2]; exact h t (by omega)
  | succ k ih =>
    intro i a hi h t ht
    rw [mX12_stirs_2, zc i (by omega)]
    refine ih (i + 1) _ (by omega) (fun u hu => ?_) t ht
    by_cases e : u = i
    · subst e; exact pk_us
    · rw [pk_un e]; exact h u (by omega)
theorem s_stirs (a : Nat → Int32) {t : Nat} (ht : t < 40) : mX12_stirs a t = 0 := s_stirs_2 40 0 a rfl (fun t h => by omega) t ht
section SP
variable {v : Nat} {h : GH} {sz tr ca pl ag mk lk rt st sT : Nat → Int32}
theorem r_puts8 (hv : v < 22) (M : rM v h sz tr ca pl ag mk lk rt st sT) (N : iN h) (T : Int32) : ∀ k i (tr' : Nat → Int32), i + k = 40 → lF v tr tr' → (∀ t, t < 40 → tr' (40 * v + t) = if t < i ∧ h 9 t = 1 then -1 else tr (40 * v + t)) →
    ∃ tr2, lF v tr tr2 ∧ (∀ t, t < 40 → tr2 (40 * v + t) = if h 9 t = 1 then -1 else tr (40 * v + t)) ∧ mX12_puts_8 (nI v) T sz ca st k i tr' = (mX12_carsOf (nI v) T sz tr2 ca).bind (fun q4 => mX12_puts_54 (nI v) T st 40 0 q4 tr2 ca) := by
  intro k
  induction k with
  | zero =>
    intro i tr' hi f e
    refine ⟨tr', f, fun t ht => ?_, by rw [mX12_puts_8]⟩
    rw [e t ht]
    by_cases z : h 9 t = 1
    · rw [if_pos ⟨by omega, z⟩, if_pos z]
    · rw [if_neg (fun q => z q.2), if_neg z]
  | succ k ih =>
    intro i tr' hi f e
    have hi40 : i < 40 := by omega
    have b := N.1 i hi40
    rw [mX12_puts_8, zc i (by omega), (M.1 i hi40).2]
    by_cases z : h 9 i = 0
    · rw [if_pos ((nI0 (by omega)).mpr z)]
      refine ih (i + 1) tr' (by omega) f (fun t ht => ?_)
      rw [e t ht]
      by_cases y : t < i ∧ h 9 t = 1
      · rw [if_pos y, if_pos ⟨by omega, y.2⟩]
      · rw [if_neg y, if_neg (fun q => by
          by_cases x : t = i
          · subst x; omega
          · exact y ⟨by omega, q.2⟩)]
    · rw [if_neg (fun q => z ((nI0 (by omega)).mp q)), zb_t v i hv hi40, if_pos rfl, zc_t v i hv hi40]
      refine ih (i + 1) _ (by omega) (lF_tr f (lF_up tr' hi40 _)) (fun t ht => ?_)
      by_cases x : t = i
      · subst x; rw [pk_us, if_pos ⟨by omega, by omega⟩]
      · rw [pk_un (by omega), e t ht]
        by_cases y : t < i ∧ h 9 t = 1
        · rw [if_pos y, if_pos ⟨by omega, y.2⟩]
        · rw [if_neg y, if_neg (fun q => y ⟨by omega, q.2⟩)]
theorem r_puts54 (hv : v < 22) (hst : ∀ t, t < 40 → st t = nI (h 9 t)) (N : iN h) (T c : Int32) : ∀ k i (tr1 ca1 tr2 ca2 : Nat → Int32), i + k = 40 → lF v tr1 tr2 → lF v ca1 ca2 → (∀ t, t < 40 → tr2 (40 * v + t) = if t < i ∧ h 9 t = 1 then T else tr1 (40 * v + t)) → (∀ t, t < 40 → ca2 (40 * v + t) = if t < i ∧ h 9 t = 1 then c else ca1 (40 * v + t)) →
    ∃ tr3 ca3, (lF v tr1 tr3 ∧ lF v ca1 ca3) ∧ (∀ t, t < 40 → tr3 (40 * v + t) = if h 9 t = 1 then T else tr1 (40 * v + t)) ∧ (∀ t, t < 40 → ca3 (40 * v + t) = if h 9 t = 1 then c else ca1 (40 * v + t)) ∧ mX12_puts_54 (nI v) T st k i c tr2 ca2 = some (tr3, ca3, mX12_stirs st) := by
  intro k
  induction k with
  | zero =>
    intro i tr1 ca1 tr2 ca2 hi f1 f2 e1 e2
    refine ⟨tr2, ca2, ⟨f1, f2⟩, fun t ht => ?_, fun t ht => ?_, by rw [mX12_puts_54, xlet_eq]⟩
    · rw [e1 t ht]
      by_cases z : h 9 t = 1
      · rw [if_pos ⟨by omega, z⟩, if_pos z]
      · rw [if_neg (fun q => z q.2), if_neg z]
    · rw [e2 t ht]
      by_cases z : h 9 t = 1
      · rw [if_pos ⟨by omega, z⟩, if_pos z]
      · rw [if_neg (fun q => z q.2), if_neg z]
  | succ k ih =>
    intro i tr1 ca1 tr2 ca2 hi f1 f2 e1 e2
    have hi40 : i < 40 := by omega
    have b := N.1 i hi40
    rw [mX12_puts_54, zc i (by omega), hst i hi40]
    have nx : ∀ {f g : Nat → Int32} {x : Int32}, (∀ t, t < 40 → g (40 * v + t) = if t < i ∧ h 9 t = 1 then x else f (40 * v + t)) → h 9 i = 0 → ∀ t, t < 40 → g (40 * v + t) = if t < i + 1 ∧ h 9 t = 1 then x else f (40 * v + t) := by
      intro f g x e z t ht
      rw [e t ht]
      by_cases y : t < i ∧ h 9 t = 1
      · rw [if_pos y, if_pos ⟨by omega, y.2⟩]
      · rw [if_neg y, if_neg (fun q => by
          by_cases x : t = i
          · subst x; omega
          · exact y ⟨by omega, q.2⟩)]
    have ny : ∀ {f g : Nat → Int32} {x : Int32}, (∀ t, t < 40 → g (40 * v + t) = if t < i ∧ h 9 t = 1 then x else f (40 * v + t)) → ¬ h 9 i = 0 → ∀ t, t < 40 → upd g (40 * v + i) x (40 * v + t) = if t < i + 1 ∧ h 9 t = 1 then x else f (40 * v + t) := by
      intro f g x e z t ht
      by_cases y : t = i
      · subst y; rw [pk_us, if_pos ⟨by omega, by omega⟩]
      · rw [pk_un (by omega), e t ht]
        by_cases y : t < i ∧ h 9 t = 1
        · rw [if_pos y, if_pos ⟨by omega, y.2⟩]
        · rw [if_neg y, if_neg (fun q => y ⟨by omega, q.2⟩)]
    by_cases z : h 9 i = 0
    · rw [if_pos ((nI0 (by omega)).mpr z)]
      exact ih (i + 1) tr1 ca1 tr2 ca2 (by omega) f1 f2 (nx e1 z) (nx e2 z)
    · rw [if_neg (fun q => z ((nI0 (by omega)).mp q)), zb_t v i hv hi40, if_pos rfl, zc_t v i hv hi40]
      exact ih (i + 1) tr1 ca1 _ _ (by omega) (lF_tr f1 (lF_up tr2 hi40 _)) (lF_tr f2 (lF_up ca2 hi40 _)) (ny e1 z) (ny e2 z)
theorem r_puts (hv : v < 22) (M : rM v h sz tr ca pl ag mk lk rt st sT) (N : iN h) {s : Nat} (hs : s < 500) (hs0 : s = 0 → ∀ t, t < 40 → h 9 t = 0) :
    ∃ tr' ca' st', rM v (gPq h s) sz tr' ca' pl ag mk lk rt st' sT ∧ (lF v tr tr' ∧ lF v ca ca') ∧ (∀ t, t < 40 → st' t = 0) ∧ mX12_puts (nI v) (bno s) sz tr ca st = some (tr', ca', st') := by
  unfold mX12_puts
  by_cases z : s = 0
  · subst z
    have e : gPq h 0 = h := funext (fun a => funext (fun b => gPq_n h 0 (fun q => q.1 rfl) a))
    rw [if_pos (show bno 0 = -1 from rfl), e]
    exact ⟨tr, ca, st, M, ⟨lF_rf v _, lF_rf v _⟩, fun t ht => by rw [(M.1 t ht).2, hs0 rfl t ht]; rfl, rfl⟩
  · rw [if_neg (fun q => z ((bno_m1 (by omega)).mp q))]
    have eB : bno s = nI (s - 1) := by rw [show s = (s - 1) + 1 by omega, bnoS]; rfl
    rw [eB]
    obtain ⟨tr2, f, e1, e2⟩ := r_puts8 hv M N (nI (s - 1)) 40 0 tr rfl (lF_rf v _) (fun t ht => by rw [if_neg (by omega)])
    have eC : mX12_carsOf (nI v) (nI (s - 1)) sz tr2 ca = some (nI (gPc h s)) := by
      have key : ∀ t, t < 40 → ((0 < sz (40 * v + t) ∧ tr2 (40 * v + t) = nI (s - 1)) ↔ (0 < h 0 t ∧ h 9 t ≠ 1 ∧ h 1 t = s - 1)) := by
        intro t ht
        rw [r_0 M N ht, e1 t ht]
        by_cases y : h 9 t = 1
        · rw [if_pos y]
          exact ⟨fun q => absurd q.2.symm (nI_m1 (by omega)), fun q => absurd y q.2.1⟩
        · rw [if_neg y]
          by_cases h0 : 0 < h 0 t
          · have := N.2.1 t ht h0
            rw [(M.2.1 t ht h0).1, nI_eq (by omega) (by omega)]
            exact ⟨fun q => ⟨q.1, y, q.2⟩, fun q => ⟨q.1, q.2.2⟩⟩
          · exact ⟨fun q => absurd q.1 h0, fun q => absurd q.1 h0⟩
      rw [s_carsOf v hv sz tr2 ca (nI (s - 1)) (h 2) (fun t ht p q => by
        have k := ((key t ht).mp ⟨p, q⟩).1
        exact ⟨(M.2.1 t ht k).2.1, by have := N.2.1 t ht k; omega⟩)]
      unfold gPc
      rw [bmx_cong (q := fun t => decide (0 < h 0 t ∧ h 9 t ≠ 1 ∧ h 1 t = s - 1)) (fun t ht => by rw [decide_eq_decide]; exact key t ht) (fun _ _ _ => rfl)]
    rw [e2, eC, obind]
    obtain ⟨tr3, ca3, ⟨g1, g2⟩, e3, e4, e5⟩ := r_puts54 hv (fun t ht => (M.1 t ht).2) N (nI (s - 1)) (nI (gPc h s)) 40 0 tr2 ca tr2 ca rfl (lF_rf v _) (lF_rf v _) (fun t ht => by rw [if_neg (by omega)]) (fun t ht => by rw [if_neg (by omega)])
    refine ⟨tr3, ca3, mX12_stirs st, ⟨fun t ht => ⟨by rw [gPq_o h s (by decide)]; exact (M.1 t ht).1, ?_⟩, fun t ht p => ?_, fun t ht e => ?_, fun j hj => by rw [gPq_o h s (by decide)]; exact M.2.2.2.1 j hj, fun k hk => by rw [gPq_o h s (by decide)]; exact M.2.2.2.2 k hk⟩, ⟨lF_tr f g1, g2⟩, fun t ht => s_stirs st ht, e5⟩
    · rw [s_stirs st ht]
      by_cases y : h 9 t = 1
      · rw [gPq_9 h s ⟨z, y⟩]; rfl
      · rw [gPq_n h s (fun q => y q.2)]
        have := N.1 t ht
        rw [show h 9 t = 0 by omega]; rfl
    · rw [gPq_o h s (by decide)] at p
      have m := M.2.1 t ht p
      rw [gPq_o h s (a := 3) (by decide), gPq_o h s (a := 4) (by decide), gPq_o h s (a := 5) (by decide), e3 t ht, e4 t ht, e1 t ht]
      by_cases y : h 9 t = 1
      · rw [gPq_1 h s ⟨z, y⟩, gPq_2 h s ⟨z, y⟩, if_pos y, if_pos y]
        exact ⟨rfl, rfl, m.2.2⟩
      · rw [gPq_n h s (fun q => y q.2), gPq_n h s (fun q => y q.2), if_neg y, if_neg y, if_neg y]
        exact m
    · by_cases y : h 9 t = 1
      · rw [gPq_9 h s ⟨z, y⟩] at e; omega
      · rw [gPq_n h s (fun q => y q.2)] at e
        exact absurd e y
end SP
