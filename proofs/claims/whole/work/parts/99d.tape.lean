section NT
variable {P : NP} {L : List (Nat × Nat)} {tx : Nat → Nat} {n b : Nat} {CS0 CV0 : Nat → Int32} {trd cds : Int32} {TT : Nat → Nat → Int32} {nm : Nat → Int64} {un ch sm tq rn cd : Int32} {nmc ps bg lc ln rr co cf cl : Nat → Int32} {du : Bool}
/-- names of what a text told -/
theorem k_names (hc : cPl P L un ch sm tq rn cd nmc ps bg lc ln rr co cf cl du) (hR : rPl tx n b P L CS0 CV0 trd cds TT nm) : kNm b (P 0 3) nmc nm := by
  intro t ht
  obtain ⟨-, -, -, -, -, -, -, -, -, -, -, -, rnm⟩ := hR
  obtain ⟨a1, a2, a3⟩ := rnm t ht
  obtain ⟨j1, j2, j3, j4, j5⟩ := r_nameV tx n a2
  refine ⟨fun i => tx (lAt tx n (P 6 t) + i), lEnd tx n (lAt tx n (P 6 t)) - lAt tx n (P 6 t), ?_, j2, j3, ?_, ?_⟩
  · have := (lEnd_le tx n _ j1).1
    omega
  · rw [(hc.2.2.2.2.2.2.1 t ht).1, ← a3]
    show nI (lVl tx n (lAt tx n (P 6 t))) = _
    rw [j4]
  · rw [a1, j5]
end NT
/-- the tape of both sides -/
def kTp (n : Nat) (tx : Nat → Nat) (tc tr : Nat → Int32) : Prop := n ≤ 1600 ∧ ∀ i, i < n → tc i = nI (tx i) ∧ tr i = nI (tx i) ∧ tx i < 256
def bOf (v : Int32) (k : Nat) : Nat := v.toBitVec.toNat / 2 ^ k % 256
theorem to_nat (x : Int32) : x.toInt = (if 2 * x.toBitVec.toNat < 4294967296 then (x.toBitVec.toNat : Int) else (x.toBitVec.toNat : Int) - 4294967296) ∧ x.toBitVec.toNat < 4294967296 :=
  ⟨BitVec.toInt_eq_toNat_cond x.toBitVec, x.toBitVec.isLt⟩
theorem b_c (v s : Int32) (k : Nat) (hs : ((s.toUInt32 &&& Int32.toUInt32 31).toBitVec % 32).toNat = k) : (v.toUInt32 >>> (s.toUInt32 &&& Int32.toUInt32 31)).toInt32 &&& 255 = nI (bOf v k) := by
  rw [pk_and _ 8 (by decide), pk_ushr v s k hs]
  rfl
theorem b_r (v s : Int32) (k : Nat) (hs : ((s &&& 31).toBitVec.smod 32).toNat = k) (hk : k = 24 ∨ k = 16 ∨ k = 8 ∨ k = 0) : (v >>> (s &&& 31)) &&& 255 = nI (bOf v k) := by
  rw [pk_and _ 8 (by decide)]
  have e := pk_shr v (s &&& 31) k hs
  rw [Int.shiftRight_eq_div_pow] at e
  obtain ⟨a1, a2⟩ := to_nat (v >>> (s &&& 31))
  obtain ⟨b1, b2⟩ := to_nat v
  rw [a1, b1] at e
  unfold bOf
  generalize (v >>> (s &&& 31)).toBitVec.toNat = N at *
  generalize v.toBitVec.toNat = M at *
  congr 1
  rcases hk with q | q | q | q <;> subst q
  · have z : ((2 ^ 24 : Nat) : Int) = 16777216 := by decide
    have y : (2 : Nat) ^ 24 = 16777216 := by decide
    rw [z] at e
    rw [y]
    split at e <;> split at e <;> omega
  · have z : ((2 ^ 16 : Nat) : Int) = 65536 := by decide
    have y : (2 : Nat) ^ 16 = 65536 := by decide
    rw [z] at e
    rw [y]
    split at e <;> split at e <;> omega
  · have z : ((2 ^ 8 : Nat) : Int) = 256 := by decide
    have y : (2 : Nat) ^ 8 = 256 := by decide
    rw [z] at e
    rw [y]
    split at e <;> split at e <;> omega
  · have z : ((2 ^ 0 : Nat) : Int) = 1 := by decide
    have y : (2 : Nat) ^ 0 = 1 := by decide
    rw [z] at e
    rw [y]
    split at e <;> split at e <;> omega
theorem bOf_lt (v : Int32) (k : Nat) : bOf v k < 256 := Nat.mod_lt _ (by decide)
theorem k_feedN {n : Nat} {tx : Nat → Nat} {tc tr : Nat → Int32} (h : kTp n tx tc tr) (h4 : n + 4 ≤ 1600) (v : Int32) : ∃ tx' tc' tr', mX11_feedNumber v (nI n) tc = (nI (n + 4), tc') ∧ mX12_put v (nI n) tr = some (nI (n + 4), tr') ∧ kTp (n + 4) tx' tc' tr' := by
  have b24 := b_c v 24 24 (by decide)
  have b16 := b_c v 16 16 (by decide)
  have b8 := b_c v 8 8 (by decide)
  have b0 := b_c v 0 0 (by decide)
  have r24 := b_r v 24 24 (by decide) (by decide)
  have r16 := b_r v 16 16 (by decide) (by decide)
  have r8 := b_r v 8 8 (by decide) (by decide)
  have r0 := b_r v 0 0 (by decide) (by decide)
  refine ⟨fun i => if i = n then bOf v 24 else if i = n + 1 then bOf v 16 else if i = n + 2 then bOf v 8 else if i = n + 3 then bOf v 0 else tx i, upd (upd (upd (upd tc n (nI (bOf v 24))) (n + 1) (nI (bOf v 16))) (n + 2) (nI (bOf v 8))) (n + 3) (nI (bOf v 0)), upd (upd (upd (upd tr n (nI (bOf v 24))) (n + 1) (nI (bOf v 16))) (n + 2) (nI (bOf v 8))) (n + 3) (nI (bOf v 0)), ?_, ?_, h4, fun i hi => ?_⟩
  · unfold mX11_feedNumber
    rw [b24, b16, b8, b0, nI_1, nI_1, nI_1, nI_1, s_put 1600 n (by omega) (by decide), xlet_eq, s_put 1600 (n + 1) (by omega) (by decide), xlet_eq, s_put 1600 (n + 1 + 1) (by omega) (by decide), xlet_eq, s_put 1600 (n + 1 + 1 + 1) (by omega) (by decide), xlet_eq]
  · unfold mX12_put
    rw [nI_1, nI_1, nI_1, nI_1, if_pos (zb _ _ (by omega) (by decide)), if_pos (zb _ _ (by omega) (by decide)), if_pos (zb _ _ (by omega) (by decide)), if_pos (zb _ _ (by omega) (by decide)), r24, r16, r8, r0, zc _ (by omega), zc _ (by omega), zc _ (by omega), zc _ (by omega)]
  · dsimp only
    by_cases e3 : i = n + 3
    · subst e3
      rw [pk_us, pk_us, if_neg (by omega), if_neg (by omega), if_neg (by omega), if_pos rfl]
      exact ⟨rfl, rfl, bOf_lt v 0⟩
    · rw [pk_un e3, pk_un e3]
      by_cases e2 : i = n + 2
      · subst e2
        rw [pk_us, pk_us, if_neg (by omega), if_neg (by omega), if_pos rfl]
        exact ⟨rfl, rfl, bOf_lt v 8⟩
      · rw [pk_un e2, pk_un e2]
        by_cases e1 : i = n + 1
        · subst e1
          rw [pk_us, pk_us, if_neg (by omega), if_pos rfl]
          exact ⟨rfl, rfl, bOf_lt v 16⟩
        · rw [pk_un e1, pk_un e1]
          by_cases e0 : i = n
          · subst e0
            rw [pk_us, pk_us, if_pos rfl]
            exact ⟨rfl, rfl, bOf_lt v 24⟩
          · rw [pk_un e0, pk_un e0, if_neg e0, if_neg e1, if_neg e2, if_neg e3]
            exact h.2 i (by omega)
/-- feed, of both sides -/
theorem k_feed {n : Nat} {tx : Nat → Nat} {tc tr : Nat → Int32} (h : kTp n tx tc tr) {rc rr : Nat → Int32} (hr : ∀ j, j < 6 → rr j = rc j) (a b c d e : Int32) : ∃ x n' tx' tc' tr' rc' rr', mX11_feed a b c d e (nI n) tc rc = (x, nI n', tc', rc') ∧ mX12_feed a b c d e (nI n) tr rr = some (x, nI n', tr', rr') ∧ kTp n' tx' tc' tr' ∧ ∀ j, j < 6 → rr' j = rc' j := by
  unfold mX11_feed mX12_feed
  have e20 : nI n + 20 = nI (n + 20) := nI_add n 20
  have hn := h.1
  rw [e20]
  by_cases q : 1600 < n + 20
  · have l : (1600 : Int32) < nI (n + 20) := nI_lt (a := 1600) q (by omega)
    rw [if_pos l, if_pos l, show (0 : Int32) = nI 0 from rfl, c_refuse (by decide), xlet_eq, xu_q, r_refuses (by decide), obind, xu_q]
    exact ⟨_, n, tx, tc, tr, _, _, rfl, rfl, h, k_refused hr 0 (by decide)⟩
  · have l : ¬ (1600 : Int32) < nI (n + 20) := nI_nlt (b := n + 20) (a := 1600) (by omega) (by decide)
    rw [if_neg l, if_neg l]
    obtain ⟨x1, c1, r1, a1, a2, a3⟩ := k_feedN h (by omega) a
    obtain ⟨x2, c2, r2, b1, b2, b3⟩ := k_feedN a3 (by omega) b
    obtain ⟨x3, c3, r3, c4, c5, c6⟩ := k_feedN b3 (by omega) c
    obtain ⟨x4, c7, r4, d1, d2, d3⟩ := k_feedN c6 (by omega) d
    obtain ⟨x5, c8, r5, e1, e2, e3⟩ := k_feedN d3 (by omega) e
    rw [a1, xlet_eq, a2, obind]
    simp only [xu_q]
    rw [b1, xlet_eq, b2, obind]
    simp only [xu_q]
    rw [c4, xlet_eq, c5, obind]
    simp only [xu_q]
    rw [d1, xlet_eq, d2, obind]
    simp only [xu_q]
    rw [e1, xlet_eq, e2, obind]
    simp only [xu_q]
    exact ⟨_, _, x5, c8, r5, rc, rr, rfl, rfl, e3, hr⟩
theorem k_end {n : Nat} {tx : Nat → Nat} {tc tr : Nat → Int32} (h : kTp n tx tc tr) {rc rr : Nat → Int32} (hr : ∀ j, j < 6 → rr j = rc j) (v : Int32) : ∃ x n' rc' rr', mX11_end v (nI n) rc = (x, nI n', rc') ∧ mX12_end v (nI n) rr = some (x, nI n', rr') ∧ kTp n' tx tc tr ∧ ∀ j, j < 6 → rr' j = rc' j := by
  have hn := h.1
  have ref : mX12_end_12 (nI n) rr = some (false, nI n, upd rr 0 (rr 0 + 1)) := by
    unfold mX12_end_12
    rw [show (0 : Int32) = nI 0 from rfl, r_refuses (by decide), obind, xu_q]
    rfl
  unfold mX11_end mX12_end
  rw [show (0 : Int32) = nI 0 from rfl, c_refuse (by decide), ref]
  by_cases a : v < nI 0
  · rw [if_pos a, if_pos a, xlet_eq, xu_q]
    exact ⟨_, n, _, _, rfl, rfl, h, k_refused hr 0 (by decide)⟩
  · rw [if_neg a, if_neg a]
    by_cases c : nI n < v
    · rw [if_pos c, if_pos c, xlet_eq, xu_q]
      exact ⟨_, n, _, _, rfl, rfl, h, k_refused hr 0 (by decide)⟩
    · rw [if_neg c, if_neg c]
      obtain ⟨j, hj, e⟩ := nI_of a
      subst e
      have : ¬ n < j := fun q => c (nI_lt q hj)
      exact ⟨true, j, rc, rr, rfl, rfl, ⟨by omega, fun i hi => h.2 i (by omega)⟩, hr⟩
