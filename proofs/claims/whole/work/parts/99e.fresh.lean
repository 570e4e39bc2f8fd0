/-- units of the last TRAIN; whether a new one begins -/
def gLo (g : GH) : Nat := fb_sm (fun t => if 0 < g 0 t ∧ g 1 t + 1 = gTr g then g 0 t else 0) 40
def gFr (E : Nat → Nat → Nat → Nat → Bool) (g : GH) : Bool := decide (gTr g = 0) || E (g 8 0) (gTr g) (gCa g (gTr g - 1)) (gLo g)
section FS
variable {g : GH} {K : GK} {E : Nat → Nat → Nat → Nat → Bool} {b : Nat} {so sz tr ca pl ag mk lk rt km kr sf sb cs cv csz cag ctr cca cpl clk crt ccs co cf cl : Nat → Int32} {cfr : Nat → Int64} {cth cmk : Int64} {ctn csp : Int32}
theorem gLo_le (W : gW g) : gLo g ≤ 3960 := by
  unfold gLo
  have := fb_sm_bound (f := fun t => if 0 < g 0 t ∧ g 1 t + 1 = gTr g then g 0 t else 0) (c := 99) (n := 40) (fun t ht => by
    have := (W.1 t ht).1
    split <;> omega)
  omega
theorem c_wants (hE : cE co cf cl E) (W : gW g) (h8 : g 8 0 ≤ 999) (h0 : 0 < gTr g) (Y : cY g csz cag ctr cca cpl clk crt ccs cfr cth cmk ctn csp) (tp : Int32) (fa sk : Nat → Int32) : ∃ tp' fa' sk', mX3_wantsTrain tp fa sk ctn csp csz ctr ccs co cf cl = (E (g 8 0) (gTr g) (gCa g (gTr g - 1)) (gLo g), tp', fa', sk') := by
  have T40 := gTr_40 W
  have C40 := gCa_40 W (gTr g - 1)
  have L4 := gLo_le W
  have e1 : nI (gTr g) - 1 = nI (gTr g - 1) := pk_sub (b := 1) h0
  have eC : mX11_at 42 (nI (gTr g - 1)) ccs = nI (gCa g (gTr g - 1)) := by rw [s_at 42 _ (by omega) (by decide)]; exact Y.2.2.2.1 _ (by omega)
  have eL : mX10_load (mX10_riders (nI (gTr g - 1)) csz ctr) csz = nI (gLo g) := by
    rw [s_load _ _ (c_riders Y W (nI (gTr g - 1))) csz (g 0) Y.1]
    congr 1
    refine fb_sm_cong (fun t ht => ?_)
    unfold gRider
    by_cases q : 0 < g 0 t ∧ g 1 t + 1 = gTr g
    · rw [if_pos q, if_pos (decide_eq_true ⟨q.1, by congr 1; omega, Or.inl rfl⟩)]
    · rw [if_neg q, if_neg (fun z => q (by
        have z := of_decide_eq_true z
        have lt := gW_lt W ht z.1
        have := (nI_eq (by omega) (by omega)).mp z.2.1
        exact ⟨z.1, by omega⟩))]
  unfold mX3_wantsTrain
  rw [Y.2.2.2.2.2.2.2.1, Y.2.2.2.2.2.2.2.2, e1, eC, eL]
  rw [show mX11_put 4 (0 : Int32) (nI (g 8 0)) fa = upd fa 0 (nI (g 8 0)) from s_put 4 0 (by decide) (by decide) _ _, xlet_eq, show ∀ x a, mX11_put 4 (1 : Int32) x a = upd a 1 x from fun x a => s_put 4 1 (by decide) (by decide) _ _, xlet_eq, show ∀ x a, mX11_put 4 (2 : Int32) x a = upd a 2 x from fun x a => s_put 4 2 (by decide) (by decide) _ _, xlet_eq, show ∀ x a, mX11_put 4 (3 : Int32) x a = upd a 3 x from fun x a => s_put 4 3 (by decide) (by decide) _ _, xlet_eq]
  obtain ⟨x, tp', sk', r1, r2⟩ := hE (g 8 0) (gTr g) (gCa g (gTr g - 1)) (gLo g) (by omega) (by omega) (by omega) (by omega) (upd (upd (upd (upd fa 0 (nI (g 8 0))) 1 (nI (gTr g))) 2 (nI (gCa g (gTr g - 1)))) 3 (nI (gLo g))) (by simp [upd]) (by simp [upd]) (by simp [upd]) (by simp [upd]) tp sk
  rw [r1, xlet_eq]
  simp only [xu_q]
  by_cases q : x = 0
  · rw [if_pos q, r2.mp q]
    exact ⟨_, _, _, rfl⟩
  · rw [if_neg q]
    have : E (g 8 0) (gTr g) (gCa g (gTr g - 1)) (gLo g) = true := by
      cases h : E (g 8 0) (gTr g) (gCa g (gTr g - 1)) (gLo g) with
      | true => rfl
      | false => exact absurd (r2.mpr h) q
    rw [this]
    exact ⟨_, _, _, rfl⟩
theorem r_fr79 (hb : b < 2) (W : gW g) (S : rS 0 g K so sz tr ca pl ag mk lk rt km kr) (h0 : 0 < gTr g) (sk : Nat → Int64) : ∀ (m i : Nat) (ask : Nat → Int32), i + m = 40 → ask 7 = nI (fb_sm (fun t => if 0 < g 0 t ∧ g 1 t + 1 = gTr g then g 0 t else 0) i) →
    ∃ ask', mX12_isFresh_79 (nI b) sf sb cs cv sz tr sk m i (nI (gTr g - 1)) ask = mX12_isFresh_79 (nI b) sf sb cs cv sz tr sk 0 40 (nI (gTr g - 1)) ask' ∧ ask' 7 = nI (gLo g) ∧ ∀ j, j ≠ 7 → ask' j = ask j := by
  have M := S.1 (fun _ => 0) (fun _ => 0) (fun _ _ => rfl)
  have N := gW_N W
  intro m
  induction m with
  | zero =>
    intro i ask hi h
    have e : i = 40 := by omega
    subst e
    exact ⟨ask, rfl, h, fun _ _ => rfl⟩
  | succ m ih =>
    intro i ask hi h
    have hi40 : i < 40 := by omega
    have th := r_there (v := 0) (by decide) M N hi40
    rw [mX12_isFresh_79, show (0 : Int32) = nI 0 from rfl, th, obind, zc i (by omega), show (7 : Int32).toNatClampNeg = 7 from rfl, h]
    have fs : ∀ x, fb_sm (fun t => if 0 < g 0 t ∧ g 1 t + 1 = gTr g then g 0 t else 0) i + x = fb_sm (fun t => if 0 < g 0 t ∧ g 1 t + 1 = gTr g then g 0 t else 0) (i + 1) → ∃ ask', mX12_isFresh_79 (nI b) sf sb cs cv sz tr sk m (i + 1) (nI (gTr g - 1)) (upd ask 7 (nI (fb_sm (fun t => if 0 < g 0 t ∧ g 1 t + 1 = gTr g then g 0 t else 0) i) + nI x)) = mX12_isFresh_79 (nI b) sf sb cs cv sz tr sk 0 40 (nI (gTr g - 1)) ask' ∧ ask' 7 = nI (gLo g) ∧ ∀ j, j ≠ 7 → ask' j = ask j := by
      intro x hx
      obtain ⟨ask', a1, a2, a3⟩ := ih (i + 1) (upd ask 7 (nI (fb_sm (fun t => if 0 < g 0 t ∧ g 1 t + 1 = gTr g then g 0 t else 0) i) + nI x)) (by omega) (by rw [pk_us, nI_add, hx])
      exact ⟨ask', a1, a2, fun j hj => by rw [a3 j hj, pk_un hj]⟩
    by_cases p : 0 < g 0 i
    · have trE := (M.2.1 i hi40 p).1
      have szE := (M.1 i hi40).1
      rw [show 40 * 0 + i = i by omega] at trE szE
      have lt := gW_lt W hi40 p
      rw [decide_eq_true p, if_pos rfl, trE, szE]
      by_cases q : g 1 i + 1 = gTr g
      · rw [if_pos (show nI (g 1 i) = nI (gTr g - 1) by congr 1; omega)]
        exact fs (g 0 i) (by rw [fb_sm_succ, if_pos ⟨p, q⟩])
      · rw [if_neg (fun z => q (by have := (nI_eq (by omega) (by have := gTr_40 W; omega)).mp z; omega))]
        exact fs 0 (by rw [fb_sm_succ, if_neg (fun z => q z.2)])
    · rw [decide_eq_false p, if_neg (by decide)]
      exact fs 0 (by rw [fb_sm_succ, if_neg (fun z => p z.1)])
theorem r_fresh (hb : b < 2) (hE : rE b sf sb cs cv E) (W : gW g) (h8 : g 8 0 ≤ 999) (S : rS 0 g K so sz tr ca pl ag mk lk rt km kr) (sk : Nat → Int64) (ask : Nat → Int32) : ∃ sk' ask', mX12_isFresh (nI b) sf sb cs cv so sz tr ca sk ask = some (gFr E g, sk', ask') := by
  have M := S.1 (fun _ => 0) (fun _ => 0) (fun _ _ => rfl)
  have N := gW_N W
  have T40 := gTr_40 W
  have C40 := gCa_40 W (gTr g - 1)
  have L4 := gLo_le W
  unfold mX12_isFresh gFr
  rw [show (0 : Int32) = nI 0 from rfl, r_trains (v := 0) (by decide) M N, obind]
  by_cases h0 : gTr g = 0
  · rw [h0, if_pos (show nI 0 - 1 < nI 0 by decide), decide_eq_true (show (0 : Nat) = 0 from rfl), Bool.true_or]
    exact ⟨_, _, rfl⟩
  have e1 : nI (gTr g) - 1 = nI (gTr g - 1) := pk_sub (b := 1) (by omega)
  rw [e1, if_neg (show ¬ nI (gTr g - 1) < nI 0 from nI_nlt (by omega) (by omega)), r_cars (v := 0) (by decide) M N (by omega), obind, show (1 : Int32) = nI 1 from rfl, r_told hb 1 (by decide), obind, decide_eq_false h0, Bool.false_or]
  rcases hE (g 8 0) (gTr g) (gCa g (gTr g - 1)) (gLo g) (by omega) (by omega) (by omega) (by omega) with ⟨a1, a2⟩ | ⟨a1, a2⟩
  · rw [decide_eq_false (fun q => q a1), if_neg (by decide)]
    by_cases c : 3 < gCa g (gTr g - 1)
    · rw [if_pos (show (3 : Int32) < nI (gCa g (gTr g - 1)) from nI_lt (a := 3) c (by omega)), a2.mp c]
      exact ⟨_, _, rfl⟩
    · have : E (g 8 0) (gTr g) (gCa g (gTr g - 1)) (gLo g) = false := Bool.eq_false_iff.mpr (fun q => c (a2.mpr q))
      rw [if_neg (show ¬ (3 : Int32) < nI (gCa g (gTr g - 1)) from nI_nlt (b := gCa g (gTr g - 1)) (a := 3) (by omega) (by decide)), this]
      exact ⟨_, _, rfl⟩
  · rw [decide_eq_true a1, if_pos rfl]
    have s8 : so 0 = nI (g 8 0) := S.2.2
    obtain ⟨ask', r1, r2, r3⟩ := r_fr79 (sf := sf) (sb := sb) (cs := cs) (cv := cv) hb W S (by omega) sk 40 0 (upd (upd (upd (upd ask (nI 1).toNatClampNeg (so (nI 0).toNatClampNeg)) (5 : Int32).toNatClampNeg (nI (gTr g - 1) + nI 1)) (6 : Int32).toNatClampNeg (nI (gCa g (gTr g - 1)))) (7 : Int32).toNatClampNeg (nI 0)) (by decide) pk_us
    rw [r1, mX12_isFresh_79]
    have k1 : ask' 1 = nI (g 8 0) := by
      rw [r3 1 (by decide), ← s8]
      rfl
    have k5 : ask' 5 = nI (gTr g) := by
      have e5 : nI (gTr g - 1) + nI 1 = nI (gTr g) := by rw [nI_add]; congr 1; omega
      rw [r3 5 (by decide)]
      exact e5
    have k6 : ask' 6 = nI (gCa g (gTr g - 1)) := by
      rw [r3 6 (by decide)]
      rfl
    obtain ⟨y, sk', c1, c2⟩ := a2 sk ask' k1 k5 k6 r2
    rw [c1, obind, xu_q]
    by_cases q : y = 1
    · rw [if_pos q, c2.mp q]
      exact ⟨_, _, rfl⟩
    · have : E (g 8 0) (gTr g) (gCa g (gTr g - 1)) (gLo g) = false := Bool.eq_false_iff.mpr (fun z => q (c2.mpr z))
      rw [if_neg q, this]
      exact ⟨_, _, rfl⟩
end FS
