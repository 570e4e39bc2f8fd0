theorem r_refuses {k : Nat} (hk : k < 6) (rf : Nat → Int32) : mX12_refuses (nI k) rf = some (-1, upd rf k (rf k + 1)) := by
  unfold mX12_refuses
  rw [zb k 6 hk (by decide), if_pos rfl, zc k (by omega)]
theorem c_refuse {k : Nat} (hk : k < 6) (rf : Nat → Int32) : mX11_refuse (nI k) rf = (-1, upd rf k (rf k + 1)) := by
  unfold mX11_refuse
  rw [s_at 6 k hk (by decide), s_put 6 k hk (by decide), xlet_eq]
theorem k_refused {rf rf' : Nat → Int32} (h : ∀ j, j < 6 → rf j = rf' j) (k : Nat) (hk : k < 6) : ∀ j, j < 6 → upd rf k (rf k + 1) j = upd rf' k (rf' k + 1) j := by
  intro j hj
  by_cases e : j = k
  · subst e; rw [pk_us, pk_us, h j hj]
  · rw [pk_un e, pk_un e]; exact h j hj
/-- seed, on both sides -/
theorem k_seed {rf rf' : Nat → Int32} (h : ∀ j, j < 6 → rf j = rf' j) (x : Int32) {s : Nat} (hs : s < 2 ^ 31) : ∃ (q : Bool) (s' : Nat) (rf1 rf1' : Nat → Int32), mX12_seed x (lN s) rf = some (q, lN s', rf1) ∧ mX11_seed x (nI s) rf' = (q, nI s', rf1') ∧ s' < 2 ^ 31 ∧ ∀ j, j < 6 → rf1 j = rf1' j := by
  unfold mX12_seed mX11_seed
  by_cases h0 : x < 0
  · rw [if_pos h0, if_pos h0, show (5 : Int32) = nI 5 from rfl, r_refuses (by decide), obind, xu_q, if_pos (show (-1 : Int32) < 0 by decide), c_refuse (by decide), xlet_eq, xu_q]
    exact ⟨false, s, _, _, rfl, rfl, hs, k_refused h 5 (by decide)⟩
  · rw [if_neg h0, if_neg h0]
    obtain ⟨n, hn, rfl⟩ : ∃ n, n < 2 ^ 31 ∧ x = nI n := by
      by_cases e : x < nI (2 ^ 31 - 1)
      · obtain ⟨j, hj, q, -, -, -⟩ := pk_mu h0 (Int32.not_le.mpr e) (by decide)
        exact ⟨j, by omega, q⟩
      · have : nI (2 ^ 31 - 1) ≤ x := Int32.not_lt.mp e
        refine ⟨2 ^ 31 - 1, by decide, ?_⟩
        have m : x ≤ nI (2 ^ 31 - 1) := by
          rw [Int32.le_iff_toInt_le]
          have := Int32.toInt_lt x
          rw [show (nI (2 ^ 31 - 1)).toInt = 2147483647 from by decide]
          omega
        exact Int32.le_antisymm m this
    exact ⟨true, n, rf, rf', by rw [nI_l hn], rfl, hn, h⟩
section SMA
variable {g : GH}
theorem gW_r (W : gW g) {r c : Nat} (hc : c ≤ 40) (hcT : ∀ t, c = t + 1 → gTh g t = true) : gW (gset g 7 r c) := by
  obtain ⟨w1, w2, w3, w4, w5, w6, w7⟩ := W
  have o : ∀ x, x ≠ 7 → ∀ u, gset g 7 r c x u = g x u := fun x hx u => gset_n _ _ (fun q => hx q.1)
  have eT : ∀ u, gTh (gset g 7 r c) u = gTh g u := fun u => by unfold gTh; rw [o 0 (by decide)]
  refine ⟨fun t ht => ?_, fun t ht p => ?_, fun t ht p => ?_, fun t ht p => ?_, fun t u ht hu p q => ?_, ⟨fun j hj => ?_, fun i hi => ?_⟩, fun t ht e i hi => ?_⟩
  · rw [o 0 (by decide), o 4 (by decide), o 5 (by decide), o 9 (by decide)]; exact w1 t ht
  · rw [o 0 (by decide)] at p
    simp only [o 0 (by decide), o 1 (by decide)]; exact w2 t ht p
  · rw [o 0 (by decide)] at p
    simp only [o 0 (by decide), o 1 (by decide), o 2 (by decide)]; exact w3 t ht p
  · rw [o 0 (by decide)] at p
    simp only [o 0 (by decide), o 1 (by decide), o 2 (by decide), o 3 (by decide)]; exact w4 t ht p
  · rw [o 0 (by decide)] at p q
    rw [o 1 (by decide), o 1 (by decide), o 2 (by decide), o 2 (by decide), o 3 (by decide), o 3 (by decide)]; exact w5 t u ht hu p q
  · rw [o 6 (by decide)]
    exact ⟨(w6.1 j hj).1, fun t q => by rw [eT]; exact (w6.1 j hj).2 t q⟩
  · by_cases e : i = r
    · subst e
      rw [gset_s]
      exact ⟨hc, fun t q => by rw [eT]; exact hcT t q⟩
    · rw [gset_n _ _ (fun q => e q.2)]
      exact ⟨(w6.2 i hi).1, fun t q => by rw [eT]; exact (w6.2 i hi).2 t q⟩
  · rw [o 0 (by decide)] at e
    rw [o 6 (by decide)]
    exact w7 t ht e i hi
theorem cY_r {sz ag tr ca pl lk rt cs : Nat → Int32} {fr : Nat → Int64} {th mk : Int64} {tn sp : Int32} {r c : Nat} (Y : cY g sz ag tr ca pl lk rt cs fr th mk tn sp) : cY (gset g 7 r c) sz ag tr ca pl lk (upd rt r (bno c)) cs fr th mk tn sp := by
  obtain ⟨y1, y2, ⟨y3, y4⟩, y5, y6, y7, y8, y9, y10⟩ := Y
  have o : ∀ x, x ≠ 7 → ∀ u, gset g 7 r c x u = g x u := fun x hx u => gset_n _ _ (fun q => hx q.1)
  have e1 : gTr (gset g 7 r c) = gTr g := gTr_cong (fun t _ => o 0 (by decide) t) (fun t _ _ => o 1 (by decide) t)
  have e2 : ∀ w, gCa (gset g 7 r c) w = gCa g w := gCa_cong (fun t _ => o 0 (by decide) t) (fun t _ _ => o 1 (by decide) t) (fun t _ _ => o 2 (by decide) t)
  have eL : ∀ u t, gLk (gset g 7 r c) u t = gLk g u t := fun u t => by unfold gLk; simp only [o 6 (by decide)]
  refine ⟨fun t ht => by rw [o 0 (by decide)]; exact y1 t ht, fun t ht p => ?_, ⟨fun j hj => by rw [o 6 (by decide)]; exact y3 j hj, fun i hi => ?_⟩, fun w hw => by rw [e2]; exact y5 w (by rw [← e1]; exact hw), fun t ht => zh_cong (y6 t ht) (fun u _ => (eL u t).symm), zh_cong y7 (fun t _ => by unfold gTh; rw [o 0 (by decide)]), zh_cong y8 (fun t _ => by rw [o 5 (by decide)]), by rw [e1]; exact y9, by rw [o 8 (by decide)]; exact y10⟩
  · rw [o 0 (by decide)] at p
    rw [o 4 (by decide), o 1 (by decide), o 2 (by decide), o 3 (by decide)]
    exact y2 t ht p
  · by_cases w : i = r
    · subst w; rw [pk_us, gset_s]
    · rw [pk_un w, gset_n _ _ (fun q => w q.2)]; exact y4 i hi
theorem rS_r {v : Nat} {K : GK} {so sz tr ca pl ag mk lk rt km kr : Nat → Int32} {r c : Nat} (S : rS v g K so sz tr ca pl ag mk lk rt km kr) : rS v (gset g 7 r c) K so sz tr ca pl ag mk lk (upd rt (8 * v + r) (bno c)) km kr := by
  obtain ⟨h1, h2, h3⟩ := S
  have o : ∀ x, x ≠ 7 → ∀ u, gset g 7 r c x u = g x u := fun x hx u => gset_n _ _ (fun q => hx q.1)
  refine ⟨fun st sT hst => ?_, h2, by rw [o 8 (by decide)]; exact h3⟩
  have M := h1 st sT hst
  refine ⟨fun t ht => by rw [o 0 (by decide), o 9 (by decide)]; exact M.1 t ht, fun t ht p => ?_, fun t ht e => ?_, fun i hi => by rw [o 6 (by decide)]; exact M.2.2.2.1 i hi, fun i hi => ?_⟩
  · rw [o 0 (by decide)] at p
    rw [o 1 (by decide), o 2 (by decide), o 3 (by decide), o 4 (by decide), o 5 (by decide)]
    exact M.2.1 t ht p
  · rw [o 9 (by decide)] at e
    rw [o 10 (by decide)]
    exact M.2.2.1 t ht e
  · by_cases w : i = r
    · subst w; rw [pk_us, gset_s]
    · rw [pk_un (by omega), gset_n _ _ (fun q => w q.2)]; exact M.2.2.2.2 i hi
/-- is it LIVE, of both sides, whatever is asked -/
theorem k_living (W : gW g) {K : GK} {so sz tr ca pl ag mk lk rt km kr : Nat → Int32} (S : rS 0 g K so sz tr ca pl ag mk lk rt km kr) {csz cag ctr cca cpl clk crt ccs : Nat → Int32} {cfr : Nat → Int64} {cth cmk : Int64} {ctn csp : Int32} (Y : cY g csz cag ctr cca cpl clk crt ccs cfr cth cmk ctn csp) (x : Int32) (af aq : Nat → Int32) :
    ∃ af' aq', mX12_isLiving x sz lk rt af aq = some (mX11_in (mX10_live cth clk crt) x, af', aq') := by
  have hL := z_live (gW_N W).2.2 Y.2.2.2.2.2.1 clk crt Y.2.2.1.1 Y.2.2.1.2
  unfold mX12_isLiving
  rcases zx40 x with h | ⟨t, ht, rfl⟩
  · rw [z_isThing_out x h, obind, if_neg (by decide), s_in_out _ x h]
    exact ⟨af, aq, rfl⟩
  · have M := rS_M S
    have e0 : sz t = nI (g 0 t) := by have := (M.1 t ht).1; rw [Nat.mul_zero, Nat.zero_add] at this; exact this
    rw [z_isThing t ht, e0, obind, zh_in hL ht]
    have hb := ((gW_N W).1 t ht).1
    by_cases p : 0 < g 0 t
    · rw [if_pos (by rw [decide_eq_true_eq]; exact (nIp (by omega)).mpr p), livesNow_eq]
      obtain ⟨af', aq', d, e, hd⟩ := z_lives (lk := lk) (rt := rt) (gW_N W).2.2 0 (by decide) M.2.2.2.1 M.2.2.2.2 af aq
      rw [show mX12_lives (0 : Int32) (-1) (-1) (-1) lk rt af aq = _ from e, obind]
      simp only [xu_q]
      rw [zb t 40 ht (by decide), if_pos rfl, zc t (by omega)]
      refine ⟨af', aq', ?_⟩
      by_cases l : gL g t = true
      · obtain ⟨a, a2, -⟩ := (hd t ht).1 l
        rw [a, if_pos (nI_lt_far (by omega)), l]
      · rw [(hd t ht).2 l, if_neg (by decide), Bool.eq_false_iff.mpr l]
    · rw [if_neg (by rw [decide_eq_true_eq]; exact fun q => p ((nIp (by omega)).mp q))]
      have : gL g t = false := Bool.eq_false_iff.mpr (fun q => p (gL_th W ht q))
      rw [this]
      exact ⟨af, aq, rfl⟩
end SMA
