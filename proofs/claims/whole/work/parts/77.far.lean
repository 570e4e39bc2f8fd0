section KFR
variable {g : GH} {K : GK} {so sz tr ca pl ag mk lk rt km kr csz cag ctr cca cpl clk crt ccs : Nat → Int32} {cfr : Nat → Int64} {cth cmk : Int64} {ctn csp : Int32}
/-- retains, on both sides -/
theorem k_retains (W : gW g) (S : rS 0 g K so sz tr ca pl ag mk lk rt km kr) (Y : cY g csz cag ctr cca cpl clk crt ccs cfr cth cmk ctn csp) (x : Int32) (af aq : Nat → Int32) :
    ∃ af' aq', mX12_retains x sz lk rt af aq = some (mX11_retains x cth clk crt, af', aq') := by
  have N := (gW_N W).2.2
  have M := rS_M S
  unfold mX12_retains mX11_retains
  obtain ⟨e, h⟩ := k_there W S Y x
  rw [e, obind]
  by_cases q : mX10_isThere x cth = true
  · obtain ⟨t, ht, rfl, p⟩ := h q
    rw [if_pos q, if_pos q, livesNow_eq, c_retained N Y.2.2.2.2.2.1 clk crt Y.2.2.1.1 Y.2.2.1.2 t ht]
    obtain ⟨af1, aq1, d, e, hd⟩ := z_lives (lk := lk) (rt := rt) N 0 (by decide) M.2.2.2.1 M.2.2.2.2 af aq
    rw [show mX12_lives (0 : Int32) (-1) (-1) (-1) lk rt af aq = _ from e, obind]
    simp only [xu_q]
    obtain ⟨af2, aq2, d2, e2, hd2⟩ := z_lives_b (lk := lk) (rt := rt) N 0 (by decide) M.2.2.2.1 M.2.2.2.2 t ht af1 aq1
    rw [show mX12_lives (0 : Int32) (nI t) (-1) (-1) lk rt af1 aq1 = _ from e2, obind]
    simp only [xu_q]
    exact ⟨af2, aq2, rfl⟩
  · rw [if_neg q, if_neg q]
    exact ⟨af, aq, rfl⟩
/-- far, on both sides -/
theorem k_far (W : gW g) (S : rS 0 g K so sz tr ca pl ag mk lk rt km kr) (Y : cY g csz cag ctr cca cpl clk crt ccs cfr cth cmk ctn csp) (x : Int32) (af aq : Nat → Int32) :
    ∃ af' aq', mX12_far x sz lk rt af aq = some (mX11_far x cth clk crt, af', aq') := by
  have N := (gW_N W).2.2
  obtain ⟨s1, s2, s3, s4⟩ := rS_0 S
  unfold mX12_far mX11_far
  obtain ⟨e, h⟩ := k_there W S Y x
  rw [e, obind]
  by_cases q : mX10_isThere x cth = true
  · obtain ⟨t, ht, rfl, p⟩ := h q
    obtain ⟨af1, aq1, e1, e2⟩ := c_far N Y.2.2.2.2.2.1 clk crt Y.2.2.1.1 Y.2.2.1.2 t ht af aq lk rt s3 s4
    rw [if_pos q, if_pos q, livesNow_eq, e1, obind]
    simp only [xu_q]
    rw [zb t 40 ht (by decide), if_pos rfl, zc t (by omega), e2]
    by_cases z : af1 t = 100000000
    · rw [if_pos z, if_pos z]; exact ⟨_, _, rfl⟩
    · rw [if_neg z, if_neg z]; exact ⟨_, _, rfl⟩
  · rw [if_neg q, if_neg q]
    exact ⟨af, aq, rfl⟩
/-- ring, on both sides -/
theorem k_ring (W : gW g) (S : rS 0 g K so sz tr ca pl ag mk lk rt km kr) (Y : cY g csz cag ctr cca cpl clk crt ccs cfr cth cmk ctn csp) (x : Int32) (af aq : Nat → Int32) :
    ∃ af' aq', mX12_ring x sz lk af aq = some (mX11_ring x cth clk, af', aq') := by
  have N := (gW_N W).2.2
  obtain ⟨s1, s2, s3, s4⟩ := rS_0 S
  unfold mX12_ring mX11_ring
  obtain ⟨e, h⟩ := k_there W S Y x
  rw [e, obind]
  by_cases q : mX10_isThere x cth = true
  · obtain ⟨t, ht, rfl, p⟩ := h q
    obtain ⟨af1, aq1, e1⟩ := c_ring (lk := clk) N Y.2.2.2.2.2.1 lk Y.2.2.1.1 s3 t ht af aq
    rw [if_pos q, if_pos q, e1]
    exact ⟨_, _, rfl⟩
  · rw [if_neg q, if_neg q]
    exact ⟨af, aq, rfl⟩
end KFR
