def gLt (P : GP) (g : GH) (n : Nat) (w : Int32) : Int32 := if w = 0 then nI (gTr (gA P g n)) else if w = 1 then nI (gCars (gA P g n)) else if w = 2 then nI (gThs (gA P g n)) else if w = 3 then nI (gSC P g n) else if w = 4 then nI (gSF P g n) else -1
section RLT
variable {v b : Nat} {g h : GH} {sz tr ca pl ag mk lk rt st sT sf sb cs cv ut : Nat → Int32} {P : GP}
theorem r_thingsOf (hv : v < 22) (M : rM v h sz tr ca pl ag mk lk rt st sT) (N : iN h) : mX12_thingsOf (nI v) sz = some (nI (gThs h)) := by
  unfold mX12_thingsOf
  have go : ∀ k i, i + k = 40 → mX12_thingsOf_4 (nI v) sz k i (nI (fb_ct (gTh h) i)) = some (nI (fb_ct (gTh h) 40)) := by
    intro k
    induction k with
    | zero =>
      intro i hi
      have : i = 40 := by omega
      subst this
      rw [mX12_thingsOf_4]
    | succ k ih =>
      intro i hi
      have hi40 : i < 40 := by omega
      rw [mX12_thingsOf_4, r_there hv M N hi40, obind]
      have e : fb_ct (gTh h) (i + 1) = fb_ct (gTh h) i + if gTh h i = true then 1 else 0 := fb_ct_succ _ _
      have := ih (i + 1) (by omega)
      have eT : decide (0 < h 0 i) = gTh h i := rfl
      rw [eT]
      by_cases q : gTh h i = true
      · rw [if_pos q, nI_1]
        rw [e, if_pos q] at this
        exact this
      · rw [if_neg q, Int32.add_zero]
        rw [e, if_neg q] at this
        exact this
  exact go 40 0 rfl
theorem r_allCars (hv : v < 22) (M : rM v h sz tr ca pl ag mk lk rt st sT) (N : iN h) (W : gW h) : mX12_allCars (nI v) sz tr ca = some (nI (gCars h)) := by
  have := gTr_40 W
  exact s_allCars v sz tr ca (gTr h) (gCa h) (r_trains hv M N) (fun w hw => r_cars hv M N (by omega)) (by omega)
theorem r_later27 (hb : b < 2) (hF : rF b sf sb cs cv P) (hU : ut b = nI P.2.2) (hU2 : P.2.2 < 1000) (W : gW g) (h8 : g 8 0 ≤ 999) {n : Nat} (hn : n ≤ gR g) (w : Int32) : ∀ k j f (rn fe we co : Int32) (fu : Bool) (so sz tr ca pl ag mk lk rt km kr : Nat → Int32) (sk : Nat → Int64) (ask np im st sT : Nat → Int32) (K : GK), j + k = n → k < f → rS 1 (gA P g j) K so sz tr ca pl ag mk lk rt km kr →
    fOk (gLt P g n w) so sz tr ca pl ag mk lk rt km kr (mX12_later_27 (nI n) w (nI b) ut sf sb cs cv f (nI (gSC P g j)) (nI (gSF P g j)) (nI j) rn fe we co fu so sz tr ca pl ag mk lk rt km kr sk ask np im st sT) := by
  have hR := gR_le g
  intro k
  induction k with
  | zero =>
    intro j f rn fe we co fu so sz tr ca pl ag mk lk rt km kr sk ask np im st sT K hj hf S
    obtain ⟨f, rfl⟩ : ∃ q, f = q + 1 := ⟨f - 1, by omega⟩
    have : j = n := by omega
    subst this
    obtain ⟨Wj, e8⟩ := gA_W P W j
    have N := gW_N Wj
    rw [mX12_later_27, if_neg (nI_nlt (by omega) (by omega)), show mX12_trainsOf (1 : Int32) sz tr = _ from r_trains (v := 1) (by decide) (rS_M S) N, show mX12_allCars (1 : Int32) sz tr ca = _ from r_allCars (v := 1) (by decide) (rS_M S) N Wj, show mX12_thingsOf (1 : Int32) sz = _ from r_thingsOf (v := 1) (by decide) (rS_M S) N, obind, obind, obind]
    unfold gLt
    split
    · exact ⟨_, _, _, _, _, _, _, _, _, _, _, _, _, _, _, _, _, _, _, _, _, _, rfl, fun _ _ _ _ h => h⟩
    · split
      · exact ⟨_, _, _, _, _, _, _, _, _, _, _, _, _, _, _, _, _, _, _, _, _, _, rfl, fun _ _ _ _ h => h⟩
      · split
        · exact ⟨_, _, _, _, _, _, _, _, _, _, _, _, _, _, _, _, _, _, _, _, _, _, rfl, fun _ _ _ _ h => h⟩
        · split
          · exact ⟨_, _, _, _, _, _, _, _, _, _, _, _, _, _, _, _, _, _, _, _, _, _, rfl, fun _ _ _ _ h => h⟩
          · split
            · exact ⟨_, _, _, _, _, _, _, _, _, _, _, _, _, _, _, _, _, _, _, _, _, _, rfl, fun _ _ _ _ h => h⟩
            · exact ⟨_, _, _, _, _, _, _, _, _, _, _, _, _, _, _, _, _, _, _, _, _, _, rfl, fun _ _ _ _ h => h⟩
  | succ k ih =>
    intro j f rn fe we co fu so sz tr ca pl ag mk lk rt km kr sk ask np im st sT K hj hf S
    obtain ⟨f, rfl⟩ : ∃ q, f = q + 1 := ⟨f - 1, by omega⟩
    obtain ⟨Wj, e8⟩ := gA_W P W j
    obtain ⟨W1, rn', so', sz', tr', ca', pl', ag', mk', lk', km', kr', sk', ask', np', im', st', sT', e, S', e8', Y⟩ := r_tickS (v := 1) (by decide) hb hF hU hU2 Wj S (by rw [e8]; have := hR.2 h8; omega) rn sk ask np im st sT
    have e : mX12_ticks (1 : Int32) (nI b) rn ut sf sb cs cv so sz tr ca pl ag mk lk rt km kr sk ask np im st sT = _ := e
    rw [mX12_later_27, if_pos (nI_lt (by omega) (by omega)), e, obind]
    simp only [xu_q]
    have S' : rS 1 (gA P g (j + 1)) (kAdd K (gA P g j 8 0) (gTick P (gA P g j)).2.1 (gTick P (gA P g j)).2.2.1) so' sz' tr' ca' pl' ag' mk' lk' rt km' kr' := S'
    have eC : gSC P g (j + 1) = gSC P g j + (gTick P (gA P g j)).2.2.2.1 := rfl
    have eF : gSF P g (j + 1) = gSF P g j + if (gTick P (gA P g j)).2.2.2.2 = true then 1 else 0 := rfl
    by_cases fu2 : (gTick P (gA P g j)).2.2.2.2 = true
    · rw [if_pos fu2, nI_add, ← eC, nI_1, nI_1]
      rw [if_pos fu2] at eF
      rw [← eF]
      exact fOk_tr (fun u g' K' hu hS => Y u g' K' hu hS) (ih (j + 1) f _ _ _ _ _ _ _ _ _ _ _ _ _ _ _ _ _ _ _ _ _ _ _ (by omega) (by omega) S')
    · rw [if_neg fu2, nI_add, ← eC, nI_1, Int32.add_zero]
      rw [if_neg fu2, Nat.add_zero (gSF P g j)] at eF
      rw [← eF]
      exact fOk_tr (fun u g' K' hu hS => Y u g' K' hu hS) (ih (j + 1) f _ _ _ _ _ _ _ _ _ _ _ _ _ _ _ _ _ _ _ _ _ _ _ (by omega) (by omega) S')
theorem r_later (hb : b < 2) (hF : rF b sf sb cs cv P) (hU : ut b = nI P.2.2) (hU2 : P.2.2 < 1000) (W : gW g) (h8 : g 8 0 ≤ 999) {n : Nat} (hn : n ≤ 60) (w : Int32) {K0 : GK} {so sz tr ca pl ag mk lk rt km kr : Nat → Int32} (S0 : rS 0 g K0 so sz tr ca pl ag mk lk rt km kr) (rn fe we co : Int32) (fu : Bool) (sk : Nat → Int64) (ask np im st sT : Nat → Int32) :
    fOk (if n ≤ gR g then gLt P g n w else -1) so sz tr ca pl ag mk lk rt km kr (mX12_later (nI n) w (nI b) true rn fe we co fu ut sf sb cs cv so sz tr ca pl ag mk lk rt km kr sk ask np im st sT) := by
  unfold mX12_later
  rw [show mX12_isAhead (nI n) (0 : Int32) 60 true so = _ from r_ahead (a := 0) S0.2.2 h8 (by omega) (by omega)]
  by_cases q : n ≤ gR g
  · rw [decide_eq_true ⟨Nat.zero_le n, q⟩, if_pos rfl, if_pos q]
    obtain ⟨so1, sz1, tr1, ca1, pl1, ag1, mk1, lk1, rt1, km1, kr1, e3, S1, -, Y⟩ := r_copies (to := 1) (fm := 0) (by decide) (by decide) (by decide) S0
    rw [show mX12_copies (1 : Int32) (0 : Int32) so sz tr ca pl ag mk lk rt km kr = _ from e3, obind]
    simp only [xu_q]
    have := r_later27 hb hF hU hU2 W h8 q w n 0 xfuel rn fe we co fu so1 sz1 tr1 ca1 pl1 ag1 mk1 lk1 rt1 km1 kr1 sk ask np im st sT K0 (Nat.zero_add _) (Nat.lt_of_le_of_lt hn (by decide)) S1
    rw [show gSC P g 0 = 0 from rfl, show gSF P g 0 = 0 from rfl, show nI 0 = 0 from rfl] at this
    exact fOk_tr Y this
  · rw [decide_eq_false (fun w => q w.2), if_neg q, if_neg (show ¬ false = true by decide)]
    exact ⟨_, _, _, _, _, _, _, _, _, _, _, _, _, _, _, _, _, _, _, _, _, _, rfl, fun _ _ _ _ h => h⟩
end RLT
