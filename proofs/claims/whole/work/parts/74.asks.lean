theorem k_range (x : Int32) {N : Nat} (h0 : 0 < N) (hN : N < 1000) : ((x < 0 ∨ ¬ x < nI N) ∧ mX12_is x 0 (nI (N - 1)) = false) ∨ ∃ t, t < N ∧ x = nI t ∧ mX12_is x 0 (nI (N - 1)) = true := by
  rw [z_is]
  by_cases a : x < 0
  · exact Or.inl ⟨Or.inl a, by rw [decide_eq_true a]; rfl⟩
  · by_cases b : x < nI N
    · obtain ⟨j, hj, rfl, -, -, -⟩ := pk_mu a (Int32.not_le.mpr b) (by omega)
      exact Or.inr ⟨j, hj, rfl, by rw [decide_eq_false a, decide_eq_false (nI_nlt (show j ≤ N - 1 by omega) (by omega))]; rfl⟩
    · exact Or.inl ⟨Or.inr b, by
        rw [decide_eq_false a, decide_eq_true (Int32.lt_of_lt_of_le (nI_lt (show N - 1 < N by omega) (by omega)) (Int32.not_lt.mp b))]; rfl⟩
theorem k_status {rf rf' : Nat → Int32} (h : ∀ j, j < 6 → rf j = rf' j) (w : Int32) : mX12_status w rf = some (mX11_status w rf') := by
  unfold mX12_status mX11_status
  rcases k_range w (N := 6) (by decide) (by decide) with ⟨a, b⟩ | ⟨t, ht, rfl, b⟩
  · rw [show mX12_is w 0 5 = false from b, if_neg (by decide), s_at_out 6 w a]
  · rw [show mX12_is (nI t) 0 5 = true from b, if_pos rfl, zb t 6 ht (by decide), if_pos rfl, zc t (by omega), s_at 6 t ht (by decide), h t ht]
section KA
variable {g : GH} {K : GK} {so sz tr ca pl ag mk lk rt km kr csz cag ctr cca cpl clk crt ccs : Nat → Int32} {cfr : Nat → Int64} {cth cmk : Int64} {ctn csp : Int32}
theorem rS_0 (S : rS 0 g K so sz tr ca pl ag mk lk rt km kr) : (∀ t, t < 40 → sz t = nI (g 0 t)) ∧ (∀ t, t < 40 → 0 < g 0 t → tr t = nI (g 1 t) ∧ ca t = nI (g 2 t) ∧ pl t = nI (g 3 t) ∧ ag t = nI (g 4 t) ∧ mk t = nI (g 5 t)) ∧ (∀ j, j < 160 → lk j = bno (g 6 j)) ∧ ∀ k, k < 8 → rt k = bno (g 7 k) := by
  have M := rS_M S
  refine ⟨fun t ht => ?_, fun t ht p => ?_, fun j hj => ?_, fun k hk => ?_⟩
  · have := (M.1 t ht).1; rw [Nat.mul_zero, Nat.zero_add] at this; exact this
  · have := M.2.1 t ht p; rw [Nat.mul_zero, Nat.zero_add] at this; exact this
  · have := M.2.2.2.1 j hj; rw [Nat.mul_zero, Nat.zero_add] at this; exact this
  · have := M.2.2.2.2 k hk; rw [Nat.mul_zero, Nat.zero_add] at this; exact this
theorem k_there (W : gW g) (S : rS 0 g K so sz tr ca pl ag mk lk rt km kr) (Y : cY g csz cag ctr cca cpl clk crt ccs cfr cth cmk ctn csp) (x : Int32) : mX12_isThing x sz = some (mX10_isThere x cth) ∧ (mX10_isThere x cth = true → ∃ t, t < 40 ∧ x = nI t ∧ 0 < g 0 t) := by
  unfold mX10_isThere
  rcases zx40 x with h | ⟨t, ht, rfl⟩
  · rw [z_isThing_out x h, s_in_out _ x h]
    exact ⟨rfl, fun q => absurd q (by decide)⟩
  · rw [z_isThing t ht, (rS_0 S).1 t ht, zh_in Y.2.2.2.2.2.1 ht]
    have hb := ((gW_N W).1 t ht).1
    have e : decide (0 < nI (g 0 t)) = gTh g t := by
      show _ = decide _
      rw [decide_eq_decide]; exact nIp (by omega)
    rw [e]
    exact ⟨rfl, fun q => ⟨t, ht, rfl, of_decide_eq_true q⟩⟩
theorem k_link (W : gW g) (S : rS 0 g K so sz tr ca pl ag mk lk rt km kr) (Y : cY g csz cag ctr cca cpl clk crt ccs cfr cth cmk ctn csp) (x k : Int32) : mX12_link x k sz lk = some (mX11_link x k cth clk) := by
  unfold mX12_link mX11_link mX10_linkOf
  obtain ⟨e, h⟩ := k_there W S Y x
  rw [e, obind]
  by_cases q : mX10_isThere x cth = true
  · obtain ⟨t, ht, rfl, p⟩ := h q
    rw [if_pos q, if_pos q, if_neg (show ¬ nI t < 0 from nI_nlt (b := 0) (by omega) (by omega))]
    rcases k_range k (N := 4) (by decide) (by decide) with ⟨a, b⟩ | ⟨j, hj, rfl, b⟩
    · rw [show mX12_is k 0 3 = false from b, if_neg (show ¬ false = true by decide)]
      rcases a with a | a
      · rw [if_pos a]
      · by_cases c : k < 0
        · rw [if_pos c]
        · rw [if_neg c, if_neg (show ¬ k < 4 from a)]
    · have e1 : (4 : Int32) * nI t + nI j = nI (4 * t + j) := by rw [show (4 : Int32) = nI 4 from rfl, pk_mul, nI_add]
      have e2 : nI t * 4 + nI j = nI (4 * t + j) := by rw [show (4 : Int32) = nI 4 from rfl, pk_mul, nI_add, Nat.mul_comm]
      rw [show mX12_is (nI j) 0 3 = true from b, if_pos rfl, e1, e2, zb _ 3520 (by omega) (by decide), if_pos rfl, zc _ (by omega), if_neg (show ¬ nI j < 0 from nI_nlt (b := 0) (by omega) (by omega)), if_pos (show nI j < 4 from nI_lt (b := 4) hj (by decide)), s_at 160 _ (by omega) (by decide), (rS_0 S).2.2.1 _ (by omega), Y.2.2.1.1 _ (by omega)]
  · rw [if_neg q, if_neg q]
theorem k_root (S : rS 0 g K so sz tr ca pl ag mk lk rt km kr) (Y : cY g csz cag ctr cca cpl clk crt ccs cfr cth cmk ctn csp) (k : Int32) : mX12_root k rt = some (mX11_root k crt) := by
  unfold mX12_root mX11_root
  rcases k_range k (N := 8) (by decide) (by decide) with ⟨a, b⟩ | ⟨j, hj, rfl, b⟩
  · rw [show mX12_is k 0 7 = false from b, if_neg (by decide), s_at_out 8 k a]
  · rw [show mX12_is (nI j) 0 7 = true from b, if_pos rfl, zb _ 176 (by omega) (by decide), if_pos rfl, zc _ (by omega), s_at 8 j hj (by decide), (rS_0 S).2.2.2 j hj, Y.2.2.1.2 j hj]
theorem r_has95 (S : rS 0 g K so sz tr ca pl ag mk lk rt km kr) (af aq : Nat → Int32) : mX12_has_95 sz af aq 40 0 0 = some (nI (fb_sm (g 0) 40), af, aq) := by
  have go : ∀ k i, i + k = 40 → mX12_has_95 sz af aq k i (nI (fb_sm (g 0) i)) = some (nI (fb_sm (g 0) 40), af, aq) := by
    intro k
    induction k with
    | zero =>
      intro i hi
      have : i = 40 := by omega
      subst this
      rw [mX12_has_95]
    | succ k ih =>
      intro i hi
      rw [mX12_has_95, zc i (by omega), (rS_0 S).1 i (by omega), nI_add, ← fb_sm_succ]
      exact ih (i + 1) (by omega)
  exact go 40 0 rfl
/-- has, on both sides -/
theorem k_has {b U M s : Nat} {ut : Nat → Int32} (hb : b < 2) {un : Int32} (hU : ut b = un) (hs : s < 2 ^ 31) (W : gW g) (S : rS 0 g K so sz tr ca pl ag mk lk rt km kr) (Y : cY g csz cag ctr cca cpl clk crt ccs cfr cth cmk ctn csp) (w met : Int32) (af aq : Nat → Int32) :
    ∃ af' aq', mX12_has w (nI b) (nI U) (lN s) met ut so sz tr ca lk rt km af aq = some (mX11_has w (nI s) un cth ctn csp csz clk crt ccs (nI K.1) (nI U) met, af', aq') := by
  have N := gW_N W
  have M := rS_M S
  obtain ⟨q1, q2, q3⟩ := cY_40 W Y
  have hL := z_live N.2.2 Y.2.2.2.2.2.1 clk crt Y.2.2.1.1 Y.2.2.1.2
  obtain ⟨af', aq', d, e, hd⟩ := z_lives (lk := lk) (rt := rt) N.2.2 0 (by decide) M.2.2.2.1 M.2.2.2.2 af aq
  have eL : mX12_livesNow lk rt af aq = some (nI (fb_ct (gL g) 40), af', aq') := by rw [livesNow_eq]; exact e
  have eT : mX12_trainsOf (0 : Int32) sz tr = some (nI (gTr g)) := r_trains (v := 0) (by decide) M N
  have eC : mX12_allCars (0 : Int32) sz tr ca = some (nI (gCars g)) := r_allCars (v := 0) (by decide) M N W
  have eG : mX12_thingsOf (0 : Int32) sz = some (nI (gThs g)) := r_thingsOf (v := 0) (by decide) M N
  have eS : mX10_load cth csz = nI (fb_sm (g 0) 40) := by
    rw [s_load cth (gTh g) Y.2.2.2.2.2.1 csz (g 0) Y.1]
    congr 1
    refine fb_sm_cong (fun t _ => ?_)
    by_cases p : gTh g t = true
    · rw [if_pos p]
    · rw [if_neg p]
      have : ¬ 0 < g 0 t := fun x => p (decide_eq_true x)
      omega
  have z0 : (0 : Int32).toNatClampNeg = 0 := rfl
  unfold mX12_has mX11_has
  rw [zb b 2 hb (by decide), if_pos rfl, zc b (by omega), hU, eG, eL, eT, eC, r_has95 S, z0, S.2.2, S.2.1.1, lN_i, obind, obind, obind, obind, q1, q2, zh_cnt hL, eS, q3, Y.2.2.2.2.2.2.2.2]
  simp only [xu_q]
  by_cases h0 : w = 0
  · rw [if_pos h0, if_pos h0]; exact ⟨_, _, rfl⟩
  rw [if_neg h0, if_neg h0]
  by_cases h1 : w = 1
  · rw [if_pos h1, if_pos h1]; exact ⟨_, _, rfl⟩
  rw [if_neg h1, if_neg h1]
  by_cases h2 : w = 2
  · rw [if_pos h2, if_pos h2]; exact ⟨_, _, rfl⟩
  rw [if_neg h2, if_neg h2]
  by_cases h3 : w = 3
  · rw [if_pos h3, if_pos h3]; exact ⟨_, _, rfl⟩
  rw [if_neg h3, if_neg h3]
  by_cases h4 : w = 4
  · rw [if_pos h4, if_pos h4]; exact ⟨_, _, rfl⟩
  rw [if_neg h4, if_neg h4]
  by_cases h5 : w = 5
  · rw [if_pos h5, if_pos h5]; exact ⟨_, _, rfl⟩
  rw [if_neg h5, if_neg h5]
  by_cases h6 : w = 6
  · rw [if_pos h6, if_pos h6]; exact ⟨_, _, rfl⟩
  rw [if_neg h6, if_neg h6]
  by_cases h7 : w = 7
  · rw [if_pos h7, if_pos h7]; exact ⟨_, _, rfl⟩
  rw [if_neg h7, if_neg h7]
  by_cases h8 : w = 8
  · rw [if_pos h8, if_pos h8]; exact ⟨_, _, rfl⟩
  rw [if_neg h8, if_neg h8]
  by_cases h9 : w = 9
  · rw [if_pos h9, if_pos h9]; exact ⟨_, _, rfl⟩
  rw [if_neg h9, if_neg h9]
  by_cases h10 : w = 10
  · rw [if_pos h10, if_pos h10]; exact ⟨_, _, rfl⟩
  rw [if_neg h10, if_neg h10]
  exact ⟨_, _, rfl⟩
end KA
