def gPt (g : GH) (t : Nat) : Nat → Bool := gRider g (nI (g 1 t)) (nI (g 2 t))
def gRx (g : GH) (t : Nat) : Nat := gFrom g (gPt g t) t
theorem gFrom_le (g : GH) (p : Nat → Bool) (t : Nat) : gFrom g p t ≤ 168 := by
  have a := fb_ct_le (fun r => decide (g 7 r = t + 1)) 8
  have b : fb_sm (fun u => if (gTh g u && !p u) = true then fb_ct (fun r => decide (g 6 (4 * u + r) = t + 1)) 4 else 0) 40 ≤ 40 * 4 := fb_sm_bound (fun u _ => by
    split
    · exact fb_ct_le _ 4
    · exact Nat.zero_le _)
  unfold gFrom
  omega
section THG
variable {b : Nat} {g : GH} {K : GK} {so sz tr ca pl ag mk lk rt km kr st sf sb cs cv csz cag ctr cca cpl clk crt ccs code cf cl : Nat → Int32} {cfr : Nat → Int64} {cth cmk : Int64} {ctn csp : Int32} {P : GP}
theorem r_refs0 (W : gW g) (S : rS 0 g K so sz tr ca pl ag mk lk rt km kr) (hst : ∀ t, t < 40 → st t = 0) {t : Nat} (ht : t < 40) (h0 : 0 < g 0 t) : mX12_refsOf 0 (nI t) sz tr ca lk rt st = some (nI (gRx g t)) := by
  have N := gW_N W
  rw [show mX12_refsOf (0 : Int32) (nI t) sz tr ca lk rt st = _ from s_refsOf 0 (by decide) sz tr ca lk rt st t ht]
  obtain ⟨s1, s2, s3, s4⟩ := rS_0 S
  unfold gRx gFrom
  congr 3
  · refine fb_ct_cong (fun r hr => ?_)
    rw [Nat.mul_zero, Nat.zero_add, decide_eq_decide, s4 r hr]
    exact bno_nI (by have := (N.2.2.2 r hr).1; omega) (by omega)
  · refine fb_sm_cong (fun u hu => ?_)
    rw [Nat.mul_zero, Nat.zero_add, Nat.zero_add, s1 u hu, hst u hu, hst t ht]
    have np : 0 < nI (g 0 u) ↔ 0 < g 0 u := nIp (by have := N.1 u hu; omega)
    have e : fb_ct (fun r => decide (lk (4 * u + r) = nI t)) 4 = fb_ct (fun r => decide (g 6 (4 * u + r) = t + 1)) 4 := fb_ct_cong (fun r hr => by
      rw [decide_eq_decide, s3 _ (by omega)]
      exact bno_nI (by have := (N.2.2.1 (4 * u + r) (by omega)).1; omega) (by omega))
    rw [e]
    have b := N.2.1 t ht h0
    have i : (0 < nI (g 0 u) ∧ ¬ ((0 : Int32) = 0 ∧ ((0 : Int32) = 1 ∨ (tr u = tr t ∧ ca u = ca t)))) ↔ (gTh g u && !gPt g t u) = true := by
      rw [Bool.and_eq_true, Bool.not_eq_true']
      by_cases p : 0 < g 0 u
      · obtain ⟨u1, u2, -, -, -⟩ := s2 u hu p
        obtain ⟨t1, t2, -, -, -⟩ := s2 t ht h0
        rw [u1, u2, t1, t2]
        unfold gPt gRider
        rw [decide_eq_false_iff_not]
        constructor
        · rintro ⟨_, q⟩
          exact ⟨decide_eq_true p, fun r => q ⟨rfl, Or.inr ⟨r.2.1, r.2.2.resolve_left (nI_m1 (by omega))⟩⟩⟩
        · rintro ⟨_, q⟩
          refine ⟨np.mpr p, fun r => ?_⟩
          rcases r.2 with r | r
          · exact absurd r (by decide)
          · exact q ⟨p, r.1, Or.inr r.2⟩
      · exact ⟨fun q => absurd (np.mp q.1) p, fun q => absurd (of_decide_eq_true q.1) p⟩
    by_cases q : (gTh g u && !gPt g t u) = true
    · rw [if_pos (i.mpr q), if_pos q]
    · rw [if_neg (fun z => q (i.mp z)), if_neg q]
theorem r_pop0 (hb : b < 2) (hF : rF b sf sb cs cv P) (W : gW g) (h8 : g 8 0 ≤ 1000) (S : rS 0 g K so sz tr ca pl ag mk lk rt km kr) (hst : ∀ t, t < 40 → st t = 0) {t : Nat} (ht : t < 40) (h0 : 0 < g 0 t) (sk : Nat → Int64) (ask : Nat → Int32) :
    ∃ sk' ask', mX12_isPopular 0 (nI t) (nI b) sf sb cs cv so sz tr ca ag lk rt sk ask st = some (P.1 (g 8 0) (g 0 t) (gRx g t) (g 4 t), sk', ask') := by
  have c := (gW_N W).1 t ht
  have d : gRx g t ≤ 168 := gFrom_le _ _ _
  obtain ⟨s1, s2, s3, s4⟩ := rS_0 S
  obtain ⟨-, F, -⟩ := hF (g 8 0) (g 0 t) (gRx g t) (g 4 t) h8 (by omega) (by omega) (by omega)
  unfold mX12_isPopular
  rw [show mX12_isTold (0 : Int32) (nI b) sf = _ from r_told hb 0 (by omega), obind]
  rcases F with ⟨e1, e2⟩ | ⟨e1, e2⟩
  · rw [if_neg (by rw [decide_eq_true_eq]; exact fun q => q e1), r_refs0 W S hst ht h0, obind]
    by_cases q : 3 < gRx g t
    · rw [if_pos (show 3 < nI (gRx g t) from nI_lt (a := 3) q (by omega)), e2.mp q]; exact ⟨_, _, rfl⟩
    · rw [if_neg (show ¬ 3 < nI (gRx g t) from nI_nlt (a := 3) (by omega) (by decide)), Bool.eq_false_iff.mpr (fun z => q (e2.mpr z))]; exact ⟨_, _, rfl⟩
  · rw [if_pos (by rw [decide_eq_true_eq]; exact e1)]
    have l : ∃ ask', mX12_layThing 0 (nI t) so sz tr ca ag lk rt ask st = some ask' ∧ ask' 1 = nI (g 8 0) ∧ ask' 2 = nI (g 0 t) ∧ ask' 3 = nI (gRx g t) ∧ ask' 4 = nI (g 4 t) := by
      unfold mX12_layThing
      have ex : (40 : Int32) * 0 + nI t = nI t := by rw [show (40 : Int32) * 0 = 0 from rfl, Int32.zero_add]
      have zz : (0 : Int32).toNatClampNeg = 0 := rfl
      rw [show xinb (0 : Int32) 22 = true from rfl, if_pos rfl, ex, zb t 880 (by omega) (by decide), if_pos rfl, r_refs0 W S hst ht h0, obind, zc t (by omega), zz, S.2.2, s1 t ht, (s2 t ht h0).2.2.2.1]
      refine ⟨_, rfl, ?_, ?_, ?_, ?_⟩
      · rw [pk_un (show (1 : Nat) ≠ _ by decide), pk_un (show (1 : Nat) ≠ _ by decide), pk_un (show (1 : Nat) ≠ _ by decide)]; exact pk_us
      · rw [pk_un (show (2 : Nat) ≠ _ by decide), pk_un (show (2 : Nat) ≠ _ by decide)]; exact pk_us
      · rw [pk_un (show (3 : Nat) ≠ _ by decide)]; exact pk_us
      · exact pk_us
    obtain ⟨ask', l, a1, a2, a3, a4⟩ := l
    rw [l, obind]
    obtain ⟨y, sk', k1, k2⟩ := e2 sk ask' a1 a2 a3 a4
    rw [k1, obind, xu_q]
    by_cases q : y = 1
    · rw [if_pos q, k2.mp q]; exact ⟨_, _, rfl⟩
    · rw [if_neg q, Bool.eq_false_iff.mpr (fun z => q (k2.mpr z))]; exact ⟨_, _, rfl⟩
theorem c_mates (W : gW g) (Y : cY g csz cag ctr cca cpl clk crt ccs cfr cth cmk ctn csp) {t : Nat} (ht : t < 40) (h0 : 0 < g 0 t) : zh (mX10_mates (nI t) csz ctr cca) (gPt g t) := by
  have b := (gW_N W).2.1 t ht h0
  unfold mX10_mates
  rw [s_at 40 t ht (by decide), s_at 40 t ht (by decide), (Y.2.1 t ht h0).2.1, (Y.2.1 t ht h0).2.2.1]
  exact c_riders2 Y W (nI (g 1 t)) (by omega)
theorem c_refs0 (W : gW g) (Y : cY g csz cag ctr cca cpl clk crt ccs cfr cth cmk ctn csp) {m : Int64} {p : Nat → Bool} (hm : zh m p) {t : Nat} (ht : t < 40) : mX10_refs (nI t) m clk crt cfr = nI (gFrom g p t) := by
  have N := (gW_N W).2.2
  rw [s_refs t ht m p hm clk crt cfr _ (Y.2.2.2.2.1 t ht)]
  unfold gFrom
  congr 2
  · refine fb_ct_cong (fun r hr => ?_)
    rw [decide_eq_decide, Y.2.2.1.2 r hr]
    exact bno_nI (by have := (N.2 r hr).1; omega) (by omega)
  · refine fb_sm_cong (fun u hu => ?_)
    have e : fb_ct (fun r => decide (clk (4 * u + r) = nI t)) 4 = fb_ct (fun r => decide (g 6 (4 * u + r) = t + 1)) 4 := fb_ct_cong (fun r hr => by
      rw [decide_eq_decide, Y.2.2.1.1 _ (by omega)]
      exact bno_nI (by have := (N.1 (4 * u + r) (by omega)).1; omega) (by omega))
    rw [e]
    cases hp : p u with
    | true => rw [Bool.not_true, Bool.and_false, Bool.and_false]
    | false =>
      rw [Bool.not_false, Bool.and_true, Bool.and_true]
      by_cases l : gLk g u t = true
      · have : gTh g u = true := by
          refine Decidable.byContradiction (fun w => ?_)
          obtain ⟨r, hr, q⟩ := (gLk_iff g u t).mp l
          have z : g 0 u = 0 := by
            have : ¬ 0 < g 0 u := fun x => w (decide_eq_true x)
            omega
          rw [W.2.2.2.2.2.2 u hu z r hr] at q
          omega
        rw [if_pos l, if_pos this]
      · rw [if_neg l]
        split
        · symm
          refine fb_ct_zero.mpr (fun r hr => decide_eq_false (fun q => l ((gLk_iff g u t).mpr ⟨r, hr, q⟩)))
        · rfl
theorem c_pop0 (hF : cF code cf cl P) (W : gW g) (h8 : g 8 0 ≤ 1000) (Y : cY g csz cag ctr cca cpl clk crt ccs cfr cth cmk ctn csp) {t : Nat} (ht : t < 40) (h0 : 0 < g 0 t) (tp : Int32) (fa sk : Nat → Int32) :
    ∃ tp' fa' sk', mX3_isPopular (nI t) (mX10_mates (nI t) csz ctr cca) tp fa sk csp csz cag clk crt cfr code cf cl = (P.1 (g 8 0) (g 0 t) (gRx g t) (g 4 t), tp', fa', sk') := by
  have c := (gW_N W).1 t ht
  have d : gRx g t ≤ 168 := gFrom_le _ _ _
  have ew : mX3_weigh (nI t) (mX10_mates (nI t) csz ctr cca) fa csp csz cag clk crt cfr = upd (upd (upd (upd fa 0 (nI (g 8 0))) 1 (nI (g 0 t))) 2 (nI (gRx g t))) 3 (nI (g 4 t)) := by
    unfold mX3_weigh
    rw [c_refs0 W Y (c_mates W Y ht h0) ht, show gFrom g (gPt g t) t = gRx g t from rfl, s_at 40 t ht (by decide), s_at 40 t ht (by decide), Y.1 t ht, (Y.2.1 t ht h0).1, show csp = nI (g 8 0) from Y.2.2.2.2.2.2.2.2, show (0 : Int32) = nI 0 from rfl, show (1 : Int32) = nI 1 from rfl, show (2 : Int32) = nI 2 from rfl, show (3 : Int32) = nI 3 from rfl, s_put 4 0 (by decide) (by decide), xlet_eq, s_put 4 1 (by decide) (by decide), xlet_eq, s_put 4 2 (by decide) (by decide), xlet_eq, s_put 4 3 (by decide) (by decide), xlet_eq]
  unfold mX3_isPopular
  rw [ew, xlet_eq]
  obtain ⟨x, tp', sk', e, h⟩ := (hF (g 8 0) (g 0 t) (gRx g t) (g 4 t) h8 (by omega) (by omega) (by omega) (upd (upd (upd (upd fa 0 (nI (g 8 0))) 1 (nI (g 0 t))) 2 (nI (gRx g t))) 3 (nI (g 4 t))) (by rw [pk_un (by decide), pk_un (by decide), pk_un (by decide), pk_us]) (by rw [pk_un (by decide), pk_un (by decide), pk_us]) (by rw [pk_un (by decide), pk_us]) pk_us).1 tp sk
  rw [e, xlet_eq, xu_q, xu_q]
  by_cases q : x = 0
  · rw [if_pos q, h.mp q]; exact ⟨_, _, _, rfl⟩
  · rw [if_neg q, show P.1 (g 8 0) (g 0 t) (gRx g t) (g 4 t) = true from (Bool.not_eq_false _).mp (fun z => q (h.mpr z))]; exact ⟨_, _, _, rfl⟩
end THG
