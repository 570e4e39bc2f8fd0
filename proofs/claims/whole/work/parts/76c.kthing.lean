section KTH
variable {b : Nat} {g : GH} {K : GK} {so sz tr ca pl ag mk lk rt km kr st sf sb cs cv csz cag ctr cca cpl clk crt ccs code cf cl : Nat → Int32} {cfr : Nat → Int64} {cth cmk : Int64} {ctn csp : Int32} {P : GP}
/-- thing, on both sides -/
theorem k_thing (hb : b < 2) (hF : rF b sf sb cs cv P) (hG : cF code cf cl P) (W : gW g) (h8 : g 8 0 ≤ 1000) (S : rS 0 g K so sz tr ca pl ag mk lk rt km kr) (Y : cY g csz cag ctr cca cpl clk crt ccs cfr cth cmk ctn csp) (x w : Int32) (sk : Nat → Int64) (ask st af aq : Nat → Int32) (tp : Int32) (fa csk : Nat → Int32) :
    ∃ (A : Int32) (sk' : Nat → Int64) (ask' st' af' aq' : Nat → Int32) (tp' : Int32) (fa' csk' : Nat → Int32), mX12_thing x w (nI b) sf sb cs cv so sz tr ca pl ag mk lk rt sk ask st af aq = some (A, sk', ask', st', af', aq') ∧ mX11_thing x w code cf cl cth cmk csp csz cag ctr cca cpl clk crt cfr tp fa csk = (A, tp', fa', csk') := by
  have N := gW_N W
  have M := rS_M S
  unfold mX12_thing mX11_thing
  obtain ⟨e, h⟩ := k_there W S Y x
  rw [e, obind]
  by_cases q : mX10_isThere x cth = true
  · obtain ⟨t, ht, rfl, p⟩ := h q
    have hst : ∀ u, u < 40 → mX12_stirs st u = 0 := fun u hu => s_stirs st hu
    obtain ⟨s1, s2, s3, s4⟩ := rS_0 S
    obtain ⟨u1, u2, u3, u4, u5⟩ := s2 t ht p
    obtain ⟨v1, v2, v3, v4⟩ := Y.2.1 t ht p
    have hL := z_live N.2.2 Y.2.2.2.2.2.1 clk crt Y.2.2.1.1 Y.2.2.1.2
    have bN := N.1 t ht
    rw [if_pos q, if_pos q, xlet_eq, zb t 880 (by omega) (by decide), if_pos rfl, if_pos rfl, if_pos rfl, if_pos rfl, if_pos rfl, if_pos rfl, zc t (by omega), s1 t ht, u1, u2, u3, u4, u5, s_at 40 t ht (by decide), s_at 40 t ht (by decide), s_at 40 t ht (by decide), s_at 40 t ht (by decide), s_at 40 t ht (by decide), Y.1 t ht, v1, v2, v3, v4]
    by_cases h0 : w = 0
    · rw [if_pos h0, if_pos h0]; exact ⟨_, _, _, _, _, _, _, _, _, rfl, rfl⟩
    rw [if_neg h0, if_neg h0]
    by_cases h1 : w = 1
    · rw [if_pos h1, if_pos h1]; exact ⟨_, _, _, _, _, _, _, _, _, rfl, rfl⟩
    rw [if_neg h1, if_neg h1]
    by_cases h2 : w = 2
    · rw [if_pos h2, if_pos h2]; exact ⟨_, _, _, _, _, _, _, _, _, rfl, rfl⟩
    rw [if_neg h2, if_neg h2]
    by_cases h3 : w = 3
    · rw [if_pos h3, if_pos h3]; exact ⟨_, _, _, _, _, _, _, _, _, rfl, rfl⟩
    rw [if_neg h3, if_neg h3]
    by_cases h4 : w = 4
    · rw [if_pos h4, if_pos h4, livesNow_eq]
      obtain ⟨af', aq', d, e, hd⟩ := z_lives (lk := lk) (rt := rt) N.2.2 0 (by decide) M.2.2.2.1 M.2.2.2.2 af aq
      rw [show mX12_lives (0 : Int32) (-1) (-1) (-1) lk rt af aq = _ from e, obind]
      simp only [xu_q]
      rw [zb t 40 ht (by decide), if_pos rfl, zh_in hL ht]
      by_cases l : gL g t = true
      · obtain ⟨a, a2, -⟩ := (hd t ht).1 l
        rw [a, if_pos (nI_lt_far (by omega)), if_pos l]
        exact ⟨_, _, _, _, _, _, _, _, _, rfl, rfl⟩
      · rw [(hd t ht).2 l, if_neg (by decide), if_neg l]
        exact ⟨_, _, _, _, _, _, _, _, _, rfl, rfl⟩
    rw [if_neg h4, if_neg h4]
    by_cases h5 : w = 5
    · rw [if_pos h5, if_pos h5, show mX12_refsOf (0 : Int32) (nI t) sz tr ca lk rt (mX12_stirs st) = _ from r_refs0 W S hst ht p, obind, c_refs0 W Y (c_mates W Y ht p) ht]
      exact ⟨_, _, _, _, _, _, _, _, _, rfl, rfl⟩
    rw [if_neg h5, if_neg h5]
    by_cases h6 : w = 6
    · rw [if_pos h6, if_pos h6]; exact ⟨_, _, _, _, _, _, _, _, _, rfl, rfl⟩
    rw [if_neg h6, if_neg h6]
    by_cases h7 : w = 7
    · rw [if_pos h7, if_pos h7, zh_in Y.2.2.2.2.2.2.1 ht]
      by_cases z : g 5 t = 1
      · rw [z, if_pos (decide_eq_true rfl)]
        exact ⟨_, _, _, _, _, _, _, _, _, rfl, rfl⟩
      · rw [show g 5 t = 0 by omega, if_neg (by decide)]
        exact ⟨_, _, _, _, _, _, _, _, _, rfl, rfl⟩
    rw [if_neg h7, if_neg h7]
    by_cases h9 : w = 8
    · rw [if_pos h9, if_pos h9]
      obtain ⟨sk1, ask1, e1⟩ := r_pop0 hb hF W h8 S hst ht p sk ask
      obtain ⟨tp1, fa1, csk1, e2⟩ := c_pop0 hG W h8 Y ht p tp fa csk
      rw [e1, obind, e2, xlet_eq]
      simp only [xu_q]
      by_cases z : P.1 (g 8 0) (g 0 t) (gRx g t) (g 4 t) = true
      · rw [if_pos z, if_pos z]; exact ⟨_, _, _, _, _, _, _, _, _, rfl, rfl⟩
      · rw [if_neg z, if_neg z]; exact ⟨_, _, _, _, _, _, _, _, _, rfl, rfl⟩
    rw [if_neg h9, if_neg h9]
    exact ⟨_, _, _, _, _, _, _, _, _, rfl, rfl⟩
  · rw [if_neg q, if_neg q]
    exact ⟨_, _, _, _, _, _, _, _, _, rfl, rfl⟩
end KTH
