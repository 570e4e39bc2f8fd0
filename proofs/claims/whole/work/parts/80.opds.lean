section OG
variable (tx : Nat → Nat) (n : Nat) (tp : Nat → Int32)
/-- the reference's registers of sign k -/
def oG (k : Nat) (sg sa se v : Int32) (w : Int64) (lx : Int32) : Prop := ∃ (v0 : Int32) (w0 : Int64), (sg, sa, se, v, w, lx) = lRS tx n v0 w0 (lAt tx n k)
theorem oG_eq {k : Nat} {sg sa se v : Int32} {w : Int64} {lx : Int32} (h : oG tx n k sg sa se v w lx) : ∃ (v0 : Int32) (w0 : Int64), sg = nI (lSn tx n (lAt tx n k)) ∧ sa = nI (tS tx n k) ∧ se = nI (lEnd tx n (lAt tx n k)) ∧ v = (if lAt tx n k < n then nI (lVal tx n (lAt tx n k)) else v0) ∧ w = (if lAt tx n k < n then lN (lWd tx n (lAt tx n k)) else w0) ∧ lx = bno (lBad tx n (lAt tx n k)) := by
  obtain ⟨v0, w0, e⟩ := h
  unfold lRS at e
  injection e with e1 e
  injection e with e2 e
  injection e with e3 e
  injection e with e4 e
  injection e with e5 e6
  exact ⟨v0, w0, e1, e2, e3, e4, e5, e6⟩
theorem oG_bad {k : Nat} (hk : tK tx n k ≠ 1) : lBad tx n (lAt tx n k) = 0 := by
  refine Classical.byContradiction (fun q => hk ((lKd_bad tx n (lAt_le tx n k)).mpr q))
theorem oG_word {k : Nat} {sg sa se v : Int32} {w : Int64} {lx : Int32} (h : oG tx n k sg sa se v w lx) (hk : tK tx n k ≠ 1) {x : Nat} (hx : x < 24) : mX12_isWord (lN (oNum x)) sg w = gOw (tK tx n) (tV tx n) k x := by
  obtain ⟨v0, w0, e1, _, _, _, e5, _⟩ := oG_eq tx n h
  rw [e1, e5]
  exact r_isWord tx n (lAt_le tx n k) (oG_bad tx n hk) hx w0
theorem oG_sign {k : Nat} {sg sa se v : Int32} {w : Int64} {lx : Int32} (hb : ∀ i, i < n → tx i < 256) (h : oG tx n k sg sa se v w lx) (hk : tK tx n k ≠ 1) {c : Nat} (hc : c < 1000) : mX12_isSign (nI c) sg v = gSg (tK tx n) (tV tx n) k c := by
  obtain ⟨v0, w0, e1, _, _, e4, _, _⟩ := oG_eq tx n h
  rw [e1, e4]
  exact r_isSign tx n (lAt_le tx n k) hb (oG_bad tx n hk) hc v0
theorem oG_lex {k : Nat} {sg sa se v : Int32} {w : Int64} {lx : Int32} (hn : n ≤ 1600) (h : oG tx n k sg sa se v w lx) (P : Int32) : mX12_lex 0 P lx = if tK tx n k = 1 then (1, nI (tV tx n k)) else (0, P) := by
  obtain ⟨v0, w0, _, _, _, _, _, e6⟩ := oG_eq tx n h
  rw [e6, r_lex tx n hn (lAt_le tx n k)]
  unfold mX12_blame
  rw [if_neg (show ¬ (0 : Int32) < 0 by decide)]
  rfl
theorem oG_num {k : Nat} {sg sa se v : Int32} {w : Int64} {lx : Int32} (h : oG tx n k sg sa se v w lx) (hk : tK tx n k ≠ 1) : (sg = (2 : Int32) ↔ tK tx n k = 2) ∧ (tK tx n k = 2 → v = nI (tV tx n k)) := by
  obtain ⟨v0, w0, e1, _, _, e4, _, _⟩ := oG_eq tx n h
  have q := r_num tx n (lAt_le tx n k) (oG_bad tx n hk)
  rw [e1, e4]
  exact ⟨q.1, fun z => q.2 z v0⟩
theorem oG_own {k : Nat} {sg sa se v : Int32} {w : Int64} {lx : Int32} (h : oG tx n k sg sa se v w lx) (hk : tK tx n k = 4) : v = 0 := by
  obtain ⟨v0, w0, _, _, _, e4, _, _⟩ := oG_eq tx n h
  have hj : lAt tx n k < n ∧ lLt (tx (lAt tx n k)) = true := by
    unfold tK lKd at hk
    by_cases a : lAt tx n k < n
    · rw [if_pos a] at hk
      by_cases b : lBad tx n (lAt tx n k) = 0
      · rw [if_pos b] at hk
        by_cases c : lLt (tx (lAt tx n k)) = true
        · exact ⟨a, c⟩
        · rw [if_neg c] at hk
          by_cases d : lDg (tx (lAt tx n k)) = true
          · rw [if_pos d] at hk; omega
          · rw [if_neg d] at hk; omega
      · rw [if_neg b] at hk; omega
    · rw [if_neg a] at hk; omega
  rw [e4, if_pos hj.1]
  unfold lVal lSn
  rw [if_pos hj.1, if_pos hj.2]
  rfl
theorem oG_next (hn : n ≤ 1600) (ht : ∀ i, i < n → tp i = nI (tx i)) (hb : ∀ i, i < n → tx i < 256) {k : Nat} {sg sa se v : Int32} {w : Int64} {lx : Int32} (h : oG tx n k sg sa se v w lx) : ∃ (a b c d : Int32) (e : Int64) (f : Int32), mX12_ahead (nI n) se v w tp = some (a, b, c, d, e, f) ∧ oG tx n (k + 1) a b c d e f := by
  obtain ⟨v0, w0, _, _, e3, _, _, _⟩ := oG_eq tx n h
  refine ⟨_, _, _, _, _, _, ?_, v, w, rfl⟩
  rw [e3]
  have hj := lAt_le tx n k
  refine s_ahead tx n tp hn ht hb v w (lEnd tx n (lAt tx n k)) ?_
  by_cases a : lAt tx n k < n
  · exact (lEnd_le tx n _ a).2
  · unfold lEnd; rw [if_neg a]; exact hj
end OG
/-- codes laid by the reference -/
def rput (A : Nat → Int32) (c : Nat) : List Nat → (Nat → Int32)
  | [] => A
  | x :: L => rput (upd A c (nI x)) (c + 1) L
theorem rput_app : ∀ (L M : List Nat) (A : Nat → Int32) (c : Nat), rput A c (L ++ M) = rput (rput A c L) (c + L.length) M
  | [], M, A, c => rfl
  | x :: L, M, A, c => by
    show rput (upd A c (nI x)) (c + 1) (L ++ M) = rput (rput (upd A c (nI x)) (c + 1) L) (c + (L.length + 1)) M
    rw [rput_app L M, show c + 1 + L.length = c + (L.length + 1) by omega]
theorem rput_1 (L : List Nat) (x : Nat) (A : Nat → Int32) (c : Nat) : rput A c (L ++ [x]) = upd (rput A c L) (c + L.length) (nI x) := by
  rw [rput_app]; rfl
theorem rput_out : ∀ (L : List Nat) (A : Nat → Int32) (c j : Nat), (j < c ∨ c + L.length ≤ j) → rput A c L j = A j
  | [], A, c, j, _ => rfl
  | x :: L, A, c, j, h => by
    have hl : (x :: L).length = L.length + 1 := rfl
    rw [hl] at h
    rw [rput, rput_out L _ _ j (by omega)]
    exact pk_un (by omega)
theorem rput_in : ∀ (L : List Nat) (A : Nat → Int32) (c j : Nat) (h : j < L.length), rput A c L (c + j) = nI L[j]
  | [], A, c, j, h => absurd h (Nat.not_lt_zero _)
  | x :: L, A, c, 0, h => by
    rw [rput, rput_out L _ _ _ (by omega)]
    exact pk_us
  | x :: L, A, c, j + 1, h => by
    have hl : (x :: L).length = L.length + 1 := rfl
    rw [rput, show c + (j + 1) = (c + 1) + j by omega, rput_in L _ _ j (by omega)]
    rfl
def oSo (M : List (Nat × Nat)) : List Nat := M.map (·.1)
def oVa (M : List (Nat × Nat)) : List Nat := M.map (·.2)
theorem oSo_l (M : List (Nat × Nat)) : (oSo M).length = M.length := List.length_map ..
theorem oVa_l (M : List (Nat × Nat)) : (oVa M).length = M.length := List.length_map ..
/-- what waits in frames, all together; how many of it are 'not' -/
def oC : List Fr → Nat
  | [] => 0
  | F :: R => F.2.2.2.2.length + oC R
def oN : List Fr → Nat
  | [] => 0
  | F :: R => mCt F.2.2.2.2 + oN R
def oQ (x : Nat) : Nat := if mRk x ≤ 2 then mRk x else mRk x - 1
/-- how many may wait below an operator -/
def oS : List Nat → Prop
  | [] => True
  | x :: p => x < 100 ∧ p.length + (if x = 43 then 0 else 1) ≤ oQ x + mCt p ∧ (∀ y, y ∈ p → mRk y ≤ mRk x) ∧ oS p
theorem oS_hd {x : Nat} {p : List Nat} (h : oS (x :: p)) : p.length + 1 ≤ oQ x + mCt (x :: p) := by
  have := h.2.1
  rw [mCt]
  by_cases e : x = 43
  · rw [if_pos e] at *; omega
  · rw [if_neg e] at *; omega
theorem oS_push {y : Nat} {p : List Nat} (h : oS p) (hy : y < 100) (y3 : y ≠ 43) (h1 : 1 ≤ oQ y) (hq : ∀ x, x ∈ p.head? → oQ x + 1 ≤ oQ y) (hr : ∀ x, x ∈ p → mRk x ≤ mRk y) : oS (y :: p) := by
  refine ⟨hy, ?_, hr, h⟩
  rw [if_neg y3]
  cases p with
  | nil => simpa [mCt] using h1
  | cons x p =>
    have a := oS_hd h
    have b := hq x rfl
    rw [List.length_cons]
    omega
theorem oS_not {p : List Nat} (h : oS p) (hq : ∀ x, x ∈ p.head? → oQ x ≤ 2) (hr : ∀ x, x ∈ p → mRk x ≤ 3) : oS (43 :: p) := by
  refine ⟨by decide, ?_, hr, h⟩
  rw [if_pos rfl]
  have e : oQ 43 = 2 := by decide
  rw [e]
  cases p with
  | nil => simp
  | cons x p =>
    have a := oS_hd h
    have b := hq x rfl
    rw [List.length_cons]
    omega
theorem oS_app : ∀ (p q : List Nat), oS (p ++ q) → oS q
  | [], q, h => h
  | x :: p, q, h => oS_app p q h.2.2.2
theorem oQ_le (x : Nat) : oQ x ≤ 5 := by
  unfold oQ mRk
  repeat' split
  all_goals omega
theorem oS_all {r : Nat} : ∀ {p : List Nat}, oS p → (∀ x, x ∈ p.head? → mRk x < r) → ∀ x, x ∈ p → mRk x < r
  | [], _, _, x, hx => by cases hx
  | y :: p, h, g, x, hx => by
    have a := g y rfl
    rcases List.mem_cons.mp hx with e | e
    · rw [e]; exact a
    · have := h.2.2.1 x e; omega
theorem mRk_1 (x : Nat) : 1 ≤ mRk x := by
  unfold mRk
  repeat' split
  all_goals omega
theorem oS_len : ∀ (p : List Nat), oS p → p.length ≤ 5 + mCt p
  | [], _ => by simp
  | x :: p, h => by
    have a := oS_hd h
    have b := oQ_le x
    rw [List.length_cons]
    omega
theorem oS_lt : ∀ (p : List Nat), oS p → ∀ x, x ∈ p → x < 100
  | [], _, x, hx => by cases hx
  | y :: p, h, x, hx => by
    rcases List.mem_cons.mp hx with e | e
    · rw [e]; exact h.1
    · exact oS_lt p h.2.2.2 x e
/-- what laying down to a rank does -/
theorem mJn_sp (r : Nat) : ∀ (pd : List Nat) (o : Nat) (L : List (Nat × Nat)), mCt pd ≤ o → ∃ pre : List Nat, pd = pre ++ (mJn r pd o L).1 ∧ (mJn r pd o L).2.2 = L ++ mEm pre ∧ (mJn r pd o L).2.1 + mCt pre = o ∧ (∀ x, x ∈ (mJn r pd o L).1.head? → mRk x < r) ∧ (∀ x, x ∈ pre → r ≤ mRk x)
  | [], o, L, _ => ⟨[], rfl, by simp [mJn, mEm], rfl, fun x hx => by (cases hx), fun x hx => by (cases hx)⟩
  | x :: p, o, L, h => by
    by_cases e : r ≤ mRk x
    · rw [mJn, if_pos e]
      have hc : mCt p ≤ (if x = 43 then o - 1 else o) := by
        rw [mCt] at h
        by_cases z : x = 43
        · rw [if_pos z] at *; omega
        · rw [if_neg z] at *; omega
      obtain ⟨pre, a, b, c, d, g⟩ := mJn_sp r p (if x = 43 then o - 1 else o) (L ++ [(x, 0)]) hc
      refine ⟨x :: pre, ?_, ?_, ?_, d, fun y hy => ?_⟩
      · rw [List.cons_append, ← a]
      · rw [b]; simp [mEm]
      · have e1 : mCt (x :: p) = (if x = 43 then 1 else 0) + mCt p := rfl
        have e2 : mCt (x :: pre) = (if x = 43 then 1 else 0) + mCt pre := rfl
        rw [e1] at h
        rw [e2]
        by_cases z : x = 43
        · simp only [if_pos z] at h c ⊢; omega
        · simp only [if_neg z] at h c ⊢; omega
      · rcases List.mem_cons.mp hy with q | q
        · rw [q]; exact e
        · exact g y q
    · rw [mJn, if_neg e]
      refine ⟨[], rfl, by simp [mEm], rfl, fun y hy => ?_, fun y hy => by (cases hy)⟩
      simp only [List.head?_cons, Option.mem_def, Option.some.injEq] at hy
      subst hy
      omega
/-- what waits lies in the row of operators -/
def oW (op : Nat → Int32) (b : Nat) : List Nat → Prop
  | [] => True
  | x :: p => op (b + p.length) = nI x ∧ oW op b p
theorem oW_cong {op op' : Nat → Int32} {b : Nat} : ∀ {p : List Nat}, (∀ i, i < b + p.length → op i = op' i) → oW op b p → oW op' b p
  | [], _, _ => trivial
  | x :: p, h, w => by
    have hl : (x :: p).length = p.length + 1 := rfl
    rw [hl] at h
    exact ⟨by rw [← h _ (by omega)]; exact w.1, oW_cong (fun i hi => h i (by omega)) w.2⟩
theorem oW_app {op : Nat → Int32} {b : Nat} : ∀ (p q : List Nat), oW op b (p ++ q) → oW op b q
  | [], q, h => h
  | x :: p, q, h => oW_app p q h.2
theorem oW_push {op : Nat → Int32} {b : Nat} (y : Nat) {p : List Nat} (h : oW op b p) : oW (upd op (b + p.length) (nI y)) b (y :: p) :=
  ⟨pk_us, oW_cong (fun i hi => (pk_un (by omega)).symm) h⟩
theorem s_rank : ∀ x, x < 100 → mX12_rank (nI x) = nI (mRk x) := by decide +kernel
theorem mRk_lt (x : Nat) : mRk x < 7 := by
  unfold mRk
  repeat' split
  all_goals omega
theorem s_codeAdd (i c x v : Nat) (hi : i < 2) (hc : c < 1600) (CS CV : Nat → Int32) : mX12_add (nI x) (nI v) (nI c) (nI i) CS CV = some (nI (c + 1), upd CS (1600 * i + c) (nI x), upd CV (1600 * i + c) (nI v)) := by
  unfold mX12_add
  have e : (1600 : Int32) * nI i + nI c = nI (1600 * i + c) := by
    rw [show (1600 : Int32) = nI 1600 from rfl, pk_mul, nI_add]
  rw [e, if_pos (zb _ _ (by omega) (by decide)), zc _ (by omega), nI_1]
theorem s_joins0 (r i c0 d : Nat) (hi : i < 2) (hr : r < 10) (hd : d < 20) (CS0 CV0 ba op : Nat → Int32) (b : Nat) (hb : ba d = nI b) : ∀ (f : Nat) (pd : List Nat) (o : Nat) (M : List (Nat × Nat)), pd.length < f → oS pd → oW op b pd → mCt pd ≤ o → b + pd.length ≤ 500 → o < 1000 → c0 + M.length + pd.length ≤ 1600 →
    mX12_joins_0 (nI r) (nI i) (nI (d + 1)) ba op f (nI (c0 + M.length)) (nI o) (nI (b + pd.length)) (rput CS0 (1600 * i + c0) (oSo M)) (rput CV0 (1600 * i + c0) (oVa M)) =
    some (nI (c0 + (mJn r pd o M).2.2.length), nI (mJn r pd o M).2.1, nI (b + (mJn r pd o M).1.length), rput CS0 (1600 * i + c0) (oSo (mJn r pd o M).2.2), rput CV0 (1600 * i + c0) (oVa (mJn r pd o M).2.2)) := by
  intro f
  induction f with
  | zero => intro pd o M h; exact absurd h (Nat.not_lt_zero _)
  | succ f ih =>
    intro pd o M hf hS hW hm hB ho hc
    rw [mX12_joins_0, nI_pred, if_pos (zb _ _ hd (by decide)), zc _ (by omega), hb]
    cases pd with
    | nil =>
      rw [List.length_nil, Nat.add_zero, if_neg (nI_nlt (Nat.le_refl b) (by rw [List.length_nil] at hB; omega))]
      rfl
    | cons x p =>
      have hl : (x :: p).length = p.length + 1 := rfl
      rw [hl] at hf hB hc ⊢
      have hx := hS.1
      have hRk := mRk_lt x
      rw [if_pos (nI_lt (by omega) (by omega)), ← Nat.add_assoc, nI_pred, if_pos (zb _ _ (by omega) (by decide)), zc _ (by omega), hW.1, s_rank x hx]
      by_cases e : r ≤ mRk x
      · rw [if_neg (nI_nlt e (by omega)), mJn, if_pos e, show (0 : Int32) = nI 0 from rfl, s_codeAdd i _ x 0 hi (by omega), obind, xu_q, xu_q]
        have e1 : upd (rput CS0 (1600 * i + c0) (oSo M)) (1600 * i + (c0 + M.length)) (nI x) = rput CS0 (1600 * i + c0) (oSo (M ++ [(x, 0)])) := by
          unfold oSo
          rw [List.map_append, List.map_cons, List.map_nil, rput_1, List.length_map, Nat.add_assoc]
        have e2 : upd (rput CV0 (1600 * i + c0) (oVa M)) (1600 * i + (c0 + M.length)) (nI 0) = rput CV0 (1600 * i + c0) (oVa (M ++ [(x, 0)])) := by
          unfold oVa
          rw [List.map_append, List.map_cons, List.map_nil, rput_1, List.length_map, Nat.add_assoc]
        have e3 : c0 + M.length + 1 = c0 + (M ++ [(x, 0)]).length := by rw [List.length_append]; rfl
        have e4 : (M ++ [(x, 0)]).length = M.length + 1 := by rw [List.length_append]; rfl
        rw [e1, e2, e3]
        rw [mCt] at hm
        by_cases z : x = 43
        · rw [if_pos z] at hm ⊢
          obtain ⟨q, rfl⟩ : ∃ q, o = q + 1 := ⟨o - 1, by omega⟩
          rw [if_pos (by rw [z]; rfl), nI_pred, Nat.add_sub_cancel]
          exact ih p q _ (by omega) hS.2.2.2 hW.2 (by omega) (by omega) (by omega) (by rw [e4]; omega)
        · rw [if_neg z] at hm ⊢
          rw [if_neg (show ¬ nI x = 43 from fun h => z ((nI_eq (b := 43) (by omega) (by decide)).mp h))]
          exact ih p o _ (by omega) hS.2.2.2 hW.2 (by omega) (by omega) (by omega) (by rw [e4]; omega)
      · rw [if_pos (nI_lt (by omega) (by omega)), mJn, if_neg e]
        rfl
theorem s_joins (r i c0 d : Nat) (hi : i < 2) (hr : r < 10) (hd : d < 20) (CS0 CV0 ba op : Nat → Int32) (b : Nat) (hb : ba d = nI b) (pd : List Nat) (o : Nat) (M : List (Nat × Nat)) (hS : oS pd) (hW : oW op b pd) (hm : mCt pd ≤ o) (hB : b + pd.length ≤ 500) (ho : o < 1000) (hc : c0 + M.length + pd.length ≤ 1600) :
    mX12_joins (nI r) (nI (c0 + M.length)) (nI i) (nI (d + 1)) (nI o) (nI (b + pd.length)) (rput CS0 (1600 * i + c0) (oSo M)) (rput CV0 (1600 * i + c0) (oVa M)) ba op =
    some (nI (c0 + (mJn r pd o M).2.2.length), nI (mJn r pd o M).2.1, nI (b + (mJn r pd o M).1.length), rput CS0 (1600 * i + c0) (oSo (mJn r pd o M).2.2), rput CV0 (1600 * i + c0) (oVa (mJn r pd o M).2.2)) :=
  s_joins0 r i c0 d hi hr hd CS0 CV0 ba op b hb xfuel pd o M (by unfold xfuel; omega) hS hW hm hB ho hc
