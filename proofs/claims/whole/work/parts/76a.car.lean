section CARS
variable {g : GH} {K : GK} {so sz tr ca pl ag mk lk rt km kr csz cag ctr cca cpl clk crt ccs : Nat → Int32} {cfr : Nat → Int64} {cth cmk : Int64} {ctn csp : Int32}
theorem gRider_I (W : gW g) {w c t : Nat} (hw : w < 1000) (hc : c < 1000) (ht : t < 40) : gRider g (nI w) (nI c) t = decide (0 < g 0 t ∧ g 1 t = w ∧ g 2 t = c) := by
  unfold gRider
  rw [decide_eq_decide]
  by_cases p : 0 < g 0 t
  · have b := (gW_N W).2.1 t ht p
    rw [nI_eq (by omega) (by omega), nI_eq (by omega) (by omega)]
    exact ⟨fun q => ⟨p, q.2.1, q.2.2.resolve_left (nI_m1 (by omega))⟩, fun q => ⟨p, q.2.1, Or.inr q.2.2⟩⟩
  · exact ⟨fun q => absurd q.1 p, fun q => absurd q.1 p⟩
theorem gCa_40 (W : gW g) (w : Nat) : gCa g w ≤ 40 := Nat.le_trans (gCa_ct W w) (fb_ct_le _ 40)
/-- car, on both sides -/
theorem k_car (W : gW g) (S : rS 0 g K so sz tr ca pl ag mk lk rt km kr) (Y : cY g csz cag ctr cca cpl clk crt ccs cfr cth cmk ctn csp) (x y w : Int32) : mX12_car x y w sz tr ca lk rt = some (mX11_car x y w ctn csz ctr cca clk crt ccs cfr) := by
  have T40 := gTr_40 W
  have M := rS_M S
  have N := gW_N W
  unfold mX12_car mX11_car
  rw [show mX12_trainsOf (0 : Int32) sz tr = _ from r_trains (v := 0) (by decide) M N, obind, show ctn = nI (gTr g) from Y.2.2.2.2.2.2.2.1]
  rcases k_range0 x (N := gTr g) (by omega) with ⟨a, b⟩ | ⟨t, ht, rfl, b⟩
  · rw [b, if_neg (show ¬ false = true by decide)]
    rcases a with a | a
    · rw [if_pos a]
    · by_cases c : x < 0
      · rw [if_pos c]
      · rw [if_neg c, if_neg a]
  · have C40 := gCa_40 W t
    rw [b, if_pos rfl, show mX12_carsOf (0 : Int32) (nI t) sz tr ca = _ from r_cars (v := 0) (by decide) M N (show t < 1000 by omega), obind, if_neg (show ¬ nI t < 0 from nI_nlt (b := 0) (by omega) (by omega)), if_pos (nI_lt ht (by omega)), s_at 42 t (by omega) (by decide), Y.2.2.2.1 t ht]
    rcases k_range0 y (N := gCa g t) (by omega) with ⟨a, b⟩ | ⟨c, hc, rfl, b⟩
    · rw [b, if_neg (show ¬ false = true by decide)]
      rcases a with a | a
      · rw [if_pos a]
      · by_cases c : y < 0
        · rw [if_pos c]
        · rw [if_neg c, if_neg a]
    · have hz := c_riders2 Y W (nI t) (show c < 1000 by omega)
      have e1 : mX12_thingsIn (0 : Int32) (nI t) (nI c) sz tr ca = some (nI (fb_ct (gRider g (nI t) (nI c)) 40)) := by
        rw [show mX12_thingsIn (0 : Int32) (nI t) (nI c) sz tr ca = _ from r_things (v := 0) (by decide) M N (show t < 1000 by omega) (show c < 1000 by omega)]
        unfold gIn
        rw [fb_ct_cong (fun u hu => (gRider_I W (show t < 1000 by omega) (show c < 1000 by omega) hu).symm)]
      have e2 : mX12_unitsIn (0 : Int32) (nI t) (nI c) sz tr ca = some (nI (fb_sm (fun u => if gRider g (nI t) (nI c) u = true then g 0 u else 0) 40)) := by
        rw [show mX12_unitsIn (0 : Int32) (nI t) (nI c) sz tr ca = _ from s_unitsIn 0 (by decide) sz tr ca (g 0) (fun u hu => (M.1 u hu).1) (nI t) (nI c)]
        congr 2
        refine fb_sm_cong (fun u hu => ?_)
        have i := r_in2 M N hu (show t < 1000 by omega) (show c < 1000 by omega)
        have j := gRider_I W (w := t) (c := c) (show t < 1000 by omega) (show c < 1000 by omega) hu
        by_cases q : 0 < g 0 u ∧ g 1 u = t ∧ g 2 u = c
        · rw [if_pos (i.mpr q), if_pos (by rw [j]; exact decide_eq_true q)]
        · rw [if_neg (fun z => q (i.mp z)), if_neg (by rw [j]; exact fun z => q (of_decide_eq_true z))]
      rw [b, if_pos rfl, e1, e2, r_callsTo W S, obind, obind, obind, if_neg (show ¬ nI c < 0 from nI_nlt (b := 0) (by omega) (by omega)), if_pos (nI_lt hc (by omega)), zh_cnt hz, s_load _ _ hz csz (g 0) Y.1, c_into W Y hz]
      by_cases h0 : w = 0
      · rw [if_pos h0, if_pos h0]
      rw [if_neg h0, if_neg h0]
      by_cases h1 : w = 1
      · rw [if_pos h1, if_pos h1]
      rw [if_neg h1, if_neg h1]
      by_cases h2 : w = 2
      · rw [if_pos h2, if_pos h2]
      rw [if_neg h2, if_neg h2]
end CARS
