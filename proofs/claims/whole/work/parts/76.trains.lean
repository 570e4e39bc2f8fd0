theorem k_range0 (x : Int32) {N : Nat} (hN : N < 1000) : ((x < 0 ∨ ¬ x < nI N) ∧ mX12_is x 0 (nI N - 1) = false) ∨ ∃ t, t < N ∧ x = nI t ∧ mX12_is x 0 (nI N - 1) = true := by
  by_cases h : N = 0
  · subst h
    refine Or.inl ⟨?_, ?_⟩
    · by_cases a : x < 0
      · exact Or.inl a
      · exact Or.inr a
    · rw [z_is]
      by_cases a : x < 0
      · rw [decide_eq_true a]; rfl
      · rw [decide_eq_true (show nI 0 - 1 < x from Int32.lt_of_lt_of_le (show nI 0 - 1 < 0 by decide) (Int32.not_lt.mp a)), Bool.not_true, Bool.and_false]
  · have := k_range x (N := N) (by omega) hN
    rw [show nI N - 1 = nI (N - 1) from pk_sub (b := 1) (by omega)]
    exact this
section TRN
variable {g : GH} {K : GK} {so sz tr ca pl ag mk lk rt km kr csz cag ctr cca cpl clk crt ccs : Nat → Int32} {cfr : Nat → Int64} {cth cmk : Int64} {ctn csp : Int32}
theorem c_riders (Y : cY g csz cag ctr cca cpl clk crt ccs cfr cth cmk ctn csp) (W : gW g) (τ : Int32) : zh (mX10_riders τ csz ctr) (gRider g τ (-1)) := zh_cong (s_riders τ csz ctr) (fun t ht => by
  unfold gRider
  rw [decide_eq_decide, Y.1 t ht, nIp (by have := (gW_N W).1 t ht; omega)]
  constructor
  · rintro ⟨a, b⟩
    rw [(Y.2.1 t ht a).2.1] at b
    exact ⟨a, b, Or.inl rfl⟩
  · rintro ⟨a, b, -⟩
    exact ⟨a, by rw [(Y.2.1 t ht a).2.1]; exact b⟩)
theorem c_riders2 (Y : cY g csz cag ctr cca cpl clk crt ccs cfr cth cmk ctn csp) (W : gW g) (τ : Int32) {c : Nat} (hc : c < 1000) : zh (mX10_riders_ τ (nI c) csz ctr cca) (gRider g τ (nI c)) := zh_cong (s_riders2 τ (nI c) csz ctr cca) (fun t ht => by
  unfold gRider
  rw [decide_eq_decide, Y.1 t ht, nIp (by have := (gW_N W).1 t ht; omega)]
  constructor
  · rintro ⟨a, b, d⟩
    rw [(Y.2.1 t ht a).2.1] at b
    rw [(Y.2.1 t ht a).2.2.1] at d
    exact ⟨a, b, Or.inr d⟩
  · rintro ⟨a, b, d⟩
    refine ⟨a, by rw [(Y.2.1 t ht a).2.1]; exact b, ?_⟩
    rw [(Y.2.1 t ht a).2.2.1]
    exact d.resolve_left (nI_m1 (by omega)))
theorem r_train25 (W : gW g) (S : rS 0 g K so sz tr ca pl ag mk lk rt km kr) {τ : Nat} (hτ : τ < 1000) (w : Int32) : ∀ k i, i + k = 40 → mX12_train_25 (nI τ) w sz tr ca lk rt k i (nI (fb_ct (gRider g (nI τ) (-1)) i)) (nI (fb_sm (fun t => if gRider g (nI τ) (-1) t = true then g 0 t else 0) i)) =
    some (if w = 0 then nI (gCa g τ) else if w = 1 then nI (fb_ct (gRider g (nI τ) (-1)) 40) else if w = 2 then nI (fb_sm (fun t => if gRider g (nI τ) (-1) t = true then g 0 t else 0) 40) else if w = 3 then nI (gInto g (gRider g (nI τ) (-1))) else -1) := by
  intro k
  induction k with
  | zero =>
    intro i hi
    have : i = 40 := by omega
    subst this
    rw [mX12_train_25, show mX12_carsOf (0 : Int32) (nI τ) sz tr ca = _ from r_cars (v := 0) (by decide) (rS_M S) (gW_N W) hτ, r_callsTo W S, obind, obind]
    by_cases h0 : w = 0
    · rw [if_pos h0, if_pos h0]
    rw [if_neg h0, if_neg h0]
    by_cases h1 : w = 1
    · rw [if_pos h1, if_pos h1]
    rw [if_neg h1, if_neg h1]
    by_cases h2 : w = 2
    · rw [if_pos h2, if_pos h2]
    rw [if_neg h2, if_neg h2]
    by_cases h3 : w = 3
    · rw [if_pos h3, if_pos h3]
    rw [if_neg h3, if_neg h3]
  | succ k ih =>
    intro i hi
    have hi40 : i < 40 := by omega
    have ix := ih (i + 1) (by omega)
    rw [fb_ct_succ, fb_sm_succ] at ix
    rw [mX12_train_25, show mX12_isThere (0 : Int32) (nI i) sz = _ from r_there (v := 0) (by decide) (rS_M S) (gW_N W) hi40, obind, zc i (by omega), (rS_0 S).1 i hi40]
    by_cases p : 0 < g 0 i
    · rw [if_pos (decide_eq_true p), ((rS_0 S).2.1 i hi40 p).1]
      by_cases a : nI (g 1 i) = nI τ
      · rw [show gRider g (nI τ) (-1) i = true from decide_eq_true ⟨p, a, Or.inl rfl⟩, if_pos rfl, if_pos rfl] at ix
        rw [if_pos a, nI_1, nI_add]
        exact ix
      · rw [show gRider g (nI τ) (-1) i = false from decide_eq_false (fun q => a q.2.1), if_neg (show ¬ false = true by decide), if_neg (show ¬ false = true by decide)] at ix
        rw [if_neg a]
        exact ix
    · rw [if_neg (by rw [decide_eq_false p]; decide)]
      rw [show gRider g (nI τ) (-1) i = false from decide_eq_false (fun q => p q.1), if_neg (show ¬ false = true by decide), if_neg (show ¬ false = true by decide)] at ix
      exact ix
/-- train, on both sides -/
theorem k_train (W : gW g) (S : rS 0 g K so sz tr ca pl ag mk lk rt km kr) (Y : cY g csz cag ctr cca cpl clk crt ccs cfr cth cmk ctn csp) (x w : Int32) : mX12_train x w sz tr ca lk rt = some (mX11_train x w ctn csz ctr clk crt ccs cfr) := by
  have T40 := gTr_40 W
  unfold mX12_train mX11_train
  rw [show mX12_trainsOf (0 : Int32) sz tr = _ from r_trains (v := 0) (by decide) (rS_M S) (gW_N W), obind, show ctn = nI (gTr g) from Y.2.2.2.2.2.2.2.1]
  rcases k_range0 x (N := gTr g) (by omega) with ⟨a, b⟩ | ⟨t, ht, rfl, b⟩
  · rw [b, if_neg (by decide)]
    rcases a with a | a
    · rw [if_pos a]
    · by_cases c : x < 0
      · rw [if_pos c]
      · rw [if_neg c, if_neg a]
  · have hz := c_riders Y W (nI t)
    have e := r_train25 W S (τ := t) (by omega) w 40 0 rfl
    rw [show fb_ct (gRider g (nI t) (-1)) 0 = 0 from rfl, show fb_sm (fun u => if gRider g (nI t) (-1) u = true then g 0 u else 0) 0 = 0 from rfl, show nI 0 = 0 from rfl] at e
    rw [b, if_pos rfl, e, if_neg (show ¬ nI t < 0 from nI_nlt (b := 0) (by omega) (by omega)), if_pos (nI_lt ht (by omega)), s_at 42 t (by omega) (by decide), Y.2.2.2.1 t ht, zh_cnt hz, s_load _ _ hz csz (g 0) Y.1, c_into W Y hz]
end TRN
