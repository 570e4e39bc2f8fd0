/-- a fault that is told stays -/
theorem q_pos {f : Nat} (h : f ≠ 0) (h2 : f < 10) : (0 : Int32) < nI f := nI_lt (a := 0) (by omega) (by omega)
theorem d_lex {F : Int32} (P lx : Int32) (h : 0 < F) : mX12_lex F P lx = (F, P) := by
  unfold mX12_lex mX12_blame
  rw [if_pos h, xlet_eq, xu_q, ite_self]
theorem d_nz {F : Int32} (h : 0 < F) : ¬ F = 0 := fun e => by rw [e] at h; exact absurd h (by decide)
theorem d_mustWord {F : Int32} (x : Int64) (sz sg sa se v : Int32) (w : Int64) (P lx : Int32) (tp : Nat → Int32) (h : 0 < F) : mX12_mustWord x sz sg sa se v w F P lx tp = some (sg, sa, se, v, w, F, P, lx) := by
  unfold mX12_mustWord
  rw [d_lex P lx h, xlet_eq, xu_q, if_pos h]
theorem d_number {F : Int32} (lo hi sz sg sa se v : Int32) (w : Int64) (P lx : Int32) (tp : Nat → Int32) (h : 0 < F) : mX12_number lo hi sz sg sa se v w F P lx tp = some (0, sg, sa, se, v, w, F, P, lx) := by
  unfold mX12_number
  rw [d_lex P lx h, xlet_eq, xu_q, if_pos h]
theorem d_known {F : Int32} (sz sg sa se v : Int32) (w : Int64) (P lx i : Int32) (tp to : Nat → Int32) (nm : Nat → Int64) (h : 0 < F) : mX12_known sz sg sa se v w F P lx i tp to nm = some (0, sg, sa, se, v, w, F, P, lx) := by
  unfold mX12_known
  rw [d_lex P lx h, xlet_eq, xu_q, if_pos h]
theorem d_finishes {F : Int32} (m sz sg sa se v : Int32) (w : Int64) (P lx : Int32) (tp : Nat → Int32) (h : 0 < F) : mX12_finishes m sz sg sa se v w F P lx tp = some (sg, sa, se, v, w, F, P, lx) := by
  unfold mX12_finishes
  rw [d_lex P lx h, xlet_eq, xu_q, if_pos h]
theorem blame_z (a b P : Int32) : mX12_blame a b 0 P = (a, b) := blame_0 a b P
section RK
variable {tx : Nat → Nat} {n : Nat} {tp : Nat → Int32} {k : Nat} {sg sa se v : Int32} {w : Int64} {lx P : Int32}
theorem k_mustWord (hn : n ≤ 1600) (ht : ∀ i, i < n → tp i = nI (tx i)) (hb : ∀ i, i < n → tx i < 256) (hG : oG tx n k sg sa se v w lx) {x : Nat} (hx : x < 24) (P : Int32) :
    (gOw (tK tx n) (tV tx n) k x = true → ∃ (a b c d : Int32) (e : Int64) (f : Int32), mX12_mustWord (lN (oNum x)) (nI n) sg sa se v w 0 P lx tp = some (a, b, c, d, e, 0, P, f) ∧ oG tx n (k + 1) a b c d e f) ∧
    (¬ gOw (tK tx n) (tV tx n) k x = true → mX12_mustWord (lN (oNum x)) (nI n) sg sa se v w 0 P lx tp = some (sg, sa, se, v, w, nI 1, nI (gWh (tK tx n) (tV tx n) (tS tx n) k), lx)) := by
  unfold mX12_mustWord
  rw [oG_lex tx n hn hG]
  by_cases h1 : tK tx n k = 1
  · rw [if_pos h1, xlet_eq, xu_q, if_pos (show (0 : Int32) < 1 by decide)]
    refine ⟨fun h => by have := (gOw_K h).1; omega, fun _ => ?_⟩
    unfold gWh
    rw [if_pos h1]
    rfl
  · rw [if_neg h1, xlet_eq, xu_q, if_neg (show ¬ (0 : Int32) < 0 by decide), oG_word tx n hG h1 hx]
    refine ⟨fun h => ?_, fun h => ?_⟩
    · obtain ⟨a, b, c, d, e, f, g1, g2⟩ := oG_next tx n tp hn ht hb hG
      rw [if_pos h]
      unfold mX12_mustWord_29
      rw [if_pos rfl, g1, obind]
      exact ⟨a, b, c, d, e, f, rfl, g2⟩
    · rw [if_neg h, blame_0, xlet_eq, xu_q]
      unfold mX12_mustWord_29 gWh
      rw [if_neg (by decide), if_neg h1, oG_at hG]
      rfl
theorem k_is (x lo hi : Nat) (hx : x < 2000000000) (hl : lo < 2000000000) (hh : hi < 2000000000) : mX12_is (nI x) (nI lo) (nI hi) = decide (lo ≤ x ∧ x ≤ hi) := by
  unfold mX12_is
  by_cases h1 : x < lo
  · rw [if_pos (nI_lt h1 (by omega)), decide_eq_false (by omega)]
  · rw [if_neg (nI_nlt (by omega) (by omega))]
    by_cases h2 : hi < x
    · rw [if_pos (nI_lt h2 (by omega)), decide_eq_false (by omega)]
    · rw [if_neg (nI_nlt (by omega) (by omega)), decide_eq_true (by omega)]
theorem k_number (hn : n ≤ 1600) (ht : ∀ i, i < n → tp i = nI (tx i)) (hb : ∀ i, i < n → tx i < 256) (hG : oG tx n k sg sa se v w lx) (lo hi : Nat) (hl : lo < 2000000000) (hh : hi < 2000000000) (P : Int32) :
    (tK tx n k = 2 ∧ lo ≤ tV tx n k ∧ tV tx n k ≤ hi → ∃ (a b c d : Int32) (e : Int64) (f : Int32), mX12_number (nI lo) (nI hi) (nI n) sg sa se v w 0 P lx tp = some (nI (tV tx n k), a, b, c, d, e, 0, P, f) ∧ oG tx n (k + 1) a b c d e f) ∧
    (tK tx n k = 2 → ¬ (lo ≤ tV tx n k ∧ tV tx n k ≤ hi) → ∃ x, mX12_number (nI lo) (nI hi) (nI n) sg sa se v w 0 P lx tp = some (x, sg, sa, se, v, w, nI 4, nI (tS tx n k), lx)) ∧
    (tK tx n k ≠ 2 → ∃ x, mX12_number (nI lo) (nI hi) (nI n) sg sa se v w 0 P lx tp = some (x, sg, sa, se, v, w, nI 1, nI (gWh (tK tx n) (tV tx n) (tS tx n) k), lx)) := by
  unfold mX12_number
  rw [oG_lex tx n hn hG]
  by_cases h1 : tK tx n k = 1
  · rw [if_pos h1, xlet_eq, xu_q, if_pos (show (0 : Int32) < 1 by decide)]
    refine ⟨fun h => by omega, fun h => by omega, fun _ => ⟨0, ?_⟩⟩
    unfold gWh
    rw [if_pos h1]
    rfl
  · have nu := oG_num tx n hG h1
    have lt := (lVl_lt tx n hn hb (lAt tx n k)).2
    have lt' : tV tx n k < 1000000000 := lt
    rw [if_neg h1, xlet_eq, xu_q, if_neg (show ¬ (0 : Int32) < 0 by decide)]
    by_cases h2 : tK tx n k = 2
    · rw [if_pos (nu.1.mpr h2)]
      unfold mX12_number_30
      rw [if_pos rfl, nu.2 h2, k_is _ _ _ (by omega) hl hh]
      obtain ⟨a, b, c, d, e, f, g1, g2⟩ := oG_next tx n tp hn ht hb hG
      rw [nu.2 h2] at g1
      refine ⟨fun h => ?_, fun _ h => ?_, fun h => absurd h2 h⟩
      · rw [decide_eq_true h.2, if_pos rfl]
        unfold mX12_number_58
        rw [if_pos rfl, g1, obind]
        exact ⟨a, b, c, d, e, f, rfl, g2⟩
      · rw [decide_eq_false h, if_neg (by decide), blame_0, xlet_eq, xu_q]
        unfold mX12_number_58
        rw [if_neg (by decide), oG_at hG]
        exact ⟨_, rfl⟩
    · rw [if_neg (fun h => h2 (nu.1.mp h)), blame_0, xlet_eq, xu_q]
      refine ⟨fun h => by omega, fun h => by omega, fun _ => ?_⟩
      unfold mX12_number_30
      rw [if_neg (by decide)]
      unfold mX12_number_58 gWh
      rw [if_neg (by decide), if_neg h1, oG_at hG]
      exact ⟨_, rfl⟩
theorem k_count (hn : n ≤ 1600) (ht : ∀ i, i < n → tp i = nI (tx i)) (hb : ∀ i, i < n → tx i < 256) (hG : oG tx n k sg sa se v w lx) (full : Bool) (P : Int32) :
    (full = true → mX12_isCounted full (nI n) sg sa se v w 0 P lx tp = some (false, sg, sa, se, v, w, nI 6, nI (tS tx n k), lx)) ∧
    (full = false → ∃ (a b c d : Int32) (e : Int64) (f : Int32), mX12_isCounted full (nI n) sg sa se v w 0 P lx tp = some (true, a, b, c, d, e, 0, P, f) ∧ oG tx n (k + 1) a b c d e f) := by
  unfold mX12_isCounted
  rw [if_pos rfl]
  refine ⟨fun h => ?_, fun h => ?_⟩
  · rw [if_pos h, blame_0, xlet_eq, xu_q]
    unfold mX12_isCounted_21
    rw [if_neg (by decide), oG_at hG]
    rfl
  · obtain ⟨a, b, c, d, e, f, g1, g2⟩ := oG_next tx n tp hn ht hb hG
    rw [h, if_neg (by decide)]
    unfold mX12_isCounted_21
    rw [if_pos rfl, g1, obind]
    exact ⟨a, b, c, d, e, f, rfl, g2⟩
/-- names that the reference holds -/
def rNm (tx : Nat → Nat) (n i : Nat) (P : NP) (nm : Nat → Int64) : Prop := ∀ t, t < P 0 3 → nm (24 * i + t) = lN (lWd tx n (lAt tx n (P 6 t))) ∧ tK tx n (P 6 t) = 3 ∧ tV tx n (P 6 t) = P 1 t
theorem wd_eq {a b : Nat} (ha : tK tx n a = 3) (hb : tK tx n b = 3) : lN (lWd tx n (lAt tx n a)) = lN (lWd tx n (lAt tx n b)) ↔ tV tx n a = tV tx n b := by
  obtain ⟨_, a2, a3, a4, a5⟩ := r_nameV tx n ha
  obtain ⟨_, b2, b3, b4, b5⟩ := r_nameV tx n hb
  have la : ∀ (j L : Nat), L ≤ 6 → (∀ i, i < L → 97 ≤ tx (j + i) ∧ tx (j + i) ≤ 122) → lPk (fun i => tx (j + i)) L < 2 ^ 63 := by
    intro j L hL h
    have e : lPk (fun i => tx (j + i)) L = lPk (fun i => if i < L then tx (j + i) else 0) L := lPk_cong (fun i hi => by show tx (j + i) = if i < L then tx (j + i) else 0; rw [if_pos hi])
    rw [e]
    have b := lPk_lt (fun i => if i < L then tx (j + i) else 0) (fun i => by
      show (if i < L then tx (j + i) else 0) < 256
      by_cases z : i < L
      · rw [if_pos z]; have := (h i z).2; omega
      · rw [if_neg z]; decide) L
    have c : 256 ^ L ≤ 256 ^ 6 := Nat.pow_le_pow_right (by decide) hL
    have d : 256 ^ 6 < 2 ^ 63 := by decide
    omega
  unfold tV
  rw [a5, b5, a4, b4, pk_lEQ (la _ _ a2 a3) (la _ _ b2 b3)]
  exact (names_iff a2 b2 a3 b3).symm
theorem k_named0 {i : Nat} {P : NP} {to : Nat → Int32} {nm : Nat → Int64} (hi : i < 2) (h3 : P 0 3 ≤ 24) (hto : to i = nI (P 0 3)) (hnm : rNm tx n i P nm) {b : Nat} (hb : tK tx n b = 3) : ∀ (f t g : Nat), t + f = 24 → f < g → mX12_thingNamed_2 (lN (lWd tx n (lAt tx n b))) (nI i) to nm g (nI t) = some (bno (nNam P (tV tx n b) f t)) := by
  intro f
  induction f with
  | zero =>
    intro t g ht hg
    obtain ⟨g, rfl⟩ : ∃ h, g = h + 1 := ⟨g - 1, by omega⟩
    rw [mX12_thingNamed_2, if_pos (zb _ _ hi (by decide)), zc _ (by omega), hto, if_neg (nI_nlt (by omega) (by omega))]
    rfl
  | succ f ih =>
    intro t g ht hg
    obtain ⟨g, rfl⟩ : ∃ h, g = h + 1 := ⟨g - 1, by omega⟩
    rw [mX12_thingNamed_2, if_pos (zb _ _ hi (by decide)), zc _ (by omega), hto, nNam]
    by_cases h : t < P 0 3
    · have e : (24 : Int32) * nI i + nI t = nI (24 * i + t) := by
        rw [show (24 : Int32) = nI 24 from rfl, pk_mul, nI_add]
      obtain ⟨q1, q2, q3⟩ := hnm t h
      rw [if_pos (nI_lt h (by omega)), if_pos h, e, if_pos (zb _ _ (by omega) (by decide)), zc _ (by omega), q1]
      by_cases z : P 1 t = tV tx n b
      · rw [if_pos z, if_pos ((wd_eq q2 hb).mpr (by rw [q3, z])), bnoS]
      · rw [if_neg z, if_neg (fun y => z (by rw [← q3]; exact (wd_eq q2 hb).mp y)), nI_1]
        exact ih (t + 1) g (by omega) (by omega)
    · rw [if_neg (nI_nlt (by omega) (by omega)), if_neg h]
      rfl
theorem k_named {i : Nat} {P : NP} {to : Nat → Int32} {nm : Nat → Int64} (hi : i < 2) (h3 : P 0 3 ≤ 24) (hto : to i = nI (P 0 3)) (hnm : rNm tx n i P nm) {b : Nat} (hb : tK tx n b = 3) : mX12_thingNamed (lN (lWd tx n (lAt tx n b))) (nI i) to nm = some (bno (nNamed P (tV tx n b))) :=
  k_named0 hi h3 hto hnm hb 24 0 xfuel (by omega) (by unfold xfuel; omega)
/-- the sign is a name or not, and its word -/
theorem oG_name (hG : oG tx n k sg sa se v w lx) (hk : tK tx n k ≠ 1) : (sg = (1 : Int32) ∧ mX12_isOwn w = false ↔ tK tx n k = 3) ∧ (tK tx n k = 3 → w = lN (lWd tx n (lAt tx n k))) := by
  obtain ⟨v0, w0, e1, _, _, _, e5, _⟩ := oG_eq tx n hG
  have q := r_name tx n (lAt_le tx n k) (oG_bad tx n hk) w0
  rw [e1, e5]
  refine ⟨q.symm, fun h => ?_⟩
  rw [if_pos (r_nameV tx n h).1]
theorem k_known (hn : n ≤ 1600) (ht : ∀ i, i < n → tp i = nI (tx i)) (hb : ∀ i, i < n → tx i < 256) (hG : oG tx n k sg sa se v w lx) {i : Nat} {Q : NP} {to : Nat → Int32} {nm : Nat → Int64} (hi : i < 2) (h3 : Q 0 3 ≤ 24) (hto : to i = nI (Q 0 3)) (hnm : rNm tx n i Q nm) (P : Int32) :
    (tK tx n k = 3 ∧ nNamed Q (tV tx n k) ≠ 0 → ∃ (a b c d : Int32) (e : Int64) (f : Int32), mX12_known (nI n) sg sa se v w 0 P lx (nI i) tp to nm = some (nI (nNamed Q (tV tx n k) - 1), a, b, c, d, e, 0, P, f) ∧ oG tx n (k + 1) a b c d e f) ∧
    (tK tx n k = 3 → nNamed Q (tV tx n k) = 0 → ∃ x, mX12_known (nI n) sg sa se v w 0 P lx (nI i) tp to nm = some (x, sg, sa, se, v, w, nI 3, nI (tS tx n k), lx)) ∧
    (tK tx n k ≠ 3 → ∃ x, mX12_known (nI n) sg sa se v w 0 P lx (nI i) tp to nm = some (x, sg, sa, se, v, w, nI 1, nI (gWh (tK tx n) (tV tx n) (tS tx n) k), lx)) := by
  unfold mX12_known
  rw [oG_lex tx n hn hG]
  by_cases h1 : tK tx n k = 1
  · rw [if_pos h1, xlet_eq, xu_q, if_pos (show (0 : Int32) < 1 by decide)]
    refine ⟨fun h => by omega, fun h => by omega, fun _ => ⟨0, ?_⟩⟩
    unfold gWh
    rw [if_pos h1]
    rfl
  · have nu := oG_name hG h1
    rw [if_neg h1, xlet_eq, xu_q, if_neg (show ¬ (0 : Int32) < 0 by decide)]
    by_cases h3k : tK tx n k = 3
    · have own := nu.1.mpr h3k
      have le : nNamed Q (tV tx n k) ≤ 24 := by
        have := (nNam_le Q (tV tx n k) 24 0).1
        unfold nNamed
        omega
      rw [if_pos own.1, own.2, if_neg (by decide)]
      unfold mX12_known_41
      rw [if_neg (show ¬ (0 : Int32) < 0 by decide), nu.2 h3k, k_named hi h3 hto hnm h3k, obind]
      unfold mX12_known_60
      rw [if_pos rfl]
      refine ⟨fun h => ?_, fun _ h => ?_, fun h => absurd h3k h⟩
      · obtain ⟨a, b, c, d, e, f, g1, g2⟩ := oG_next tx n tp hn ht hb hG
        rw [nu.2 h3k] at g1
        rw [if_neg (fun q => h.2 ((bno_m1 (by omega)).mp q))]
        unfold mX12_known_82
        rw [if_pos rfl, g1, obind]
        simp only [xu_q]
        rw [if_neg (show ¬ (0 : Int32) < 0 by decide)]
        refine ⟨a, b, c, d, e, f, ?_, g2⟩
        rw [← bnoS, show nNamed Q (tV tx n k) - 1 + 1 = nNamed Q (tV tx n k) by omega]
      · rw [h, if_pos (show bno 0 = -1 from rfl), blame_0, xlet_eq, xu_q]
        unfold mX12_known_82
        rw [if_neg (by decide), if_pos (by decide), oG_at hG]
        exact ⟨_, rfl⟩
    · refine ⟨fun h => absurd h.1 h3k, fun h => absurd h h3k, fun _ => ?_⟩
      have t32 : ∃ x, mX12_known_32 (nI n) sg sa se v w lx (nI i) tp to nm 0 P = some (x, sg, sa, se, v, w, nI 1, nI (gWh (tK tx n) (tV tx n) (tS tx n) k), lx) := by
        unfold mX12_known_32
        rw [blame_0, xlet_eq, xu_q]
        unfold mX12_known_41
        rw [if_pos (by decide)]
        unfold mX12_known_60
        rw [if_neg (by decide)]
        unfold mX12_known_82 gWh
        rw [if_neg (by decide), if_pos (by decide), if_neg h1, oG_at hG]
        exact ⟨_, rfl⟩
      by_cases z : sg = (1 : Int32)
      · have y : mX12_isOwn w = true := by
          cases q : mX12_isOwn w with
          | true => rfl
          | false => exact absurd (nu.1.mp ⟨z, q⟩) h3k
        rw [if_pos z, if_pos y]
        exact t32
      · rw [if_neg z]
        exact t32
end RK
