theorem fill_5b (v : Int32) : ∀ (k i : Nat) (row : Nat → Int32) (t : Nat), i + k ≤ 10000 → mJ7_fill_53178_5 v k i row t = if i ≤ t ∧ t < i + k then v else row t := by
  intro k
  induction k with
  | zero => intro i row t _; rw [mJ7_fill_53178_5, if_neg (by omega)]
  | succ k ih =>
    intro i row t h
    rw [mJ7_fill_53178_5, ih (i + 1) _ t (by omega), zc i (by omega)]
    by_cases e : t = i
    · subst e; rw [if_neg (by omega), if_pos (by omega), pk_us]
    · by_cases q : i + 1 ≤ t ∧ t < i + 1 + k
      · rw [if_pos q, if_pos (by omega)]
      · rw [if_neg q, if_neg (by omega), pk_un e]
theorem s_fillb (N : Nat) (hN : N ≤ 10000) (v : Int32) (row : Nat → Int32) (t : Nat) (ht : t < N) : mJ7_fill_53178 N v row t = v := by
  unfold mJ7_fill_53178
  rw [fill_5b v N 0 row t (by omega), if_pos (by omega)]
section LG2
variable {g h : GH} {code cf cl : Nat → Int32} {un : Int32} {P : GP}
theorem cY_z {sz ag tr ca pl lk rt cs : Nat → Int32} {fr : Nat → Int64} {th mk : Int64} {tn sp : Int32} {t z : Nat} (ht : t < 40) (hg : 0 < g 0 t) (hz : 0 < z) (Y : cY g sz ag tr ca pl lk rt cs fr th mk tn sp) : cY (gZ' g t z) (upd sz t (nI z)) ag tr ca pl lk rt cs fr th mk tn sp := by
  obtain ⟨y1, y2, y3, y5, y6, y7, y8, y9, y10⟩ := Y
  have o : ∀ a, a ≠ 0 → ∀ u, gZ' g t z a u = g a u := fun a ha u => gZ'_o ha u
  have e1 : gTr (gZ' g t z) = gTr g := bmx_cong (fun u hu => by rw [decide_eq_decide]; exact gZ'_0 hg hz u) (fun u hu _ => o 1 (by decide) u)
  have e2 : ∀ w, gCa (gZ' g t z) w = gCa g w := fun w => bmx_cong (fun u hu => by rw [decide_eq_decide, gZ'_0 hg hz u, o 1 (by decide)]) (fun u hu _ => o 2 (by decide) u)
  refine ⟨fun u hu => ?_, fun u hu p => y2 u hu ((gZ'_0 hg hz u).mp p), y3, fun w hw => by rw [e2]; exact y5 w (by rw [← e1]; exact hw), y6, zh_cong y7 (fun u hu => ?_), y8, by rw [e1]; exact y9, y10⟩
  · by_cases w : u = t
    · subst w
      rw [pk_us]
      unfold gZ'
      rw [gset_s]
    · rw [pk_un w]
      unfold gZ'
      rw [gset_n _ _ (fun q => w q.2)]
      exact y1 u hu
  · show decide _ = decide _
    rw [decide_eq_decide]
    exact (gZ'_0 hg hz u).symm
theorem c_count2 {sz ag tr ca pl lk rt cs : Nat → Int32} {fr : Nat → Int64} {th mk : Int64} {tn sp : Int32} (W : gW h) (Y : cY h sz ag tr ca pl lk rt cs fr th mk tn sp) {z n : Nat} (hz : z ≤ 99) (hn : n ≤ 20) (cn : Nat → Int32) : ∃ cn', mX2_count (nI z) (nI n) cn th tn cs = cn' ∧ (cn' (63 * z + 3 * n) = nI (gTr h) ∧ cn' (63 * z + 3 * n + 1) = nI (gCars h) ∧ cn' (63 * z + 3 * n + 2) = nI (gThs h)) ∧ ∀ j, (j < 63 * z + 3 * n ∨ 63 * z + 3 * n + 3 ≤ j) → cn' j = cn j := by
  obtain ⟨a, b, c⟩ := cY_40 W Y
  unfold mX2_count
  have e0 : nI z * 63 + nI n * 3 = nI (63 * z + 3 * n) := by rw [show (63 : Int32) = nI 63 from rfl, show (3 : Int32) = nI 3 from rfl, pk_mul, pk_mul, nI_add, Nat.mul_comm z, Nat.mul_comm n]
  rw [e0, show nI (63 * z + 3 * n) + 1 = nI (63 * z + 3 * n + 1) from nI_1 _, show nI (63 * z + 3 * n) + 2 = nI (63 * z + 3 * n + 2) from nI_add _ 2, a, b, s_put 6300 _ (by omega) (by decide), xlet_eq, s_put 6300 _ (by omega) (by decide), xlet_eq, s_put 6300 _ (by omega) (by decide), xlet_eq]
  refine ⟨_, rfl, ⟨?_, ?_, ?_⟩, fun j hj => ?_⟩
  · rw [pk_un (by omega), pk_un (by omega), pk_us, c]
  · rw [pk_un (by omega), pk_us]
  · rw [pk_us]
  · rw [pk_un (by omega), pk_un (by omega), pk_un (by omega)]
/-- the row by SIZE z as far as n -/
def c2T (P : GP) (g : GH) (t z n : Nat) (cn cn0 : Nat → Int32) : Prop := (∀ m, m ≤ 20 → ∀ k, k < 3 → cn (63 * z + 3 * m + k) = if m ≤ n then nI (gQ P g t z m k) else -1) ∧ ∀ j, (j < 63 * z ∨ 63 * z + 63 ≤ j) → cn j = cn0 j
theorem c2T_up {t z n : Nat} {cn cn1 cn0 : Nat → Int32} (h : c2T P g t z n cn cn0) (hn : n + 1 ≤ 20) (q2 : cn1 (63 * z + 3 * (n + 1)) = nI (gTr (gA P (gZ' g t z) (n + 1))) ∧ cn1 (63 * z + 3 * (n + 1) + 1) = nI (gCars (gA P (gZ' g t z) (n + 1))) ∧ cn1 (63 * z + 3 * (n + 1) + 2) = nI (gThs (gA P (gZ' g t z) (n + 1)))) (q3 : ∀ j, (j < 63 * z + 3 * (n + 1) ∨ 63 * z + 3 * (n + 1) + 3 ≤ j) → cn1 j = cn j) : c2T P g t z (n + 1) cn1 cn0 := by
  refine ⟨fun m hm k hk => ?_, fun j hj => by rw [q3 j (by omega)]; exact h.2 j hj⟩
  by_cases w : m = n + 1
  · subst w
    rw [if_pos (Nat.le_refl _)]
    unfold gQ
    rcases (by omega : k = 0 ∨ k = 1 ∨ k = 2) with rfl | rfl | rfl
    · rw [if_pos rfl]; exact q2.1
    · rw [if_neg (by decide), if_pos rfl]; exact q2.2.1
    · rw [if_neg (by decide), if_neg (by decide)]; exact q2.2.2
  · rw [q3 _ (by omega), h.1 m hm k hk]
    by_cases x : m ≤ n
    · rw [if_pos x, if_pos (by omega)]
    · rw [if_neg x, if_neg (by omega)]
def gMn (D : Nat) (g : GH) : Nat := if D < gR20 g then D else gR20 g
theorem c_look117 (hF : cF code cf cl P) (hU : un = nI P.2.2) (hU2 : P.2.2 < 1000) (W : gW g) (h8 : g 8 0 ≤ 999) {t z D : Nat} (hg : 0 < g 0 t) (hz0 : 0 < z) (hz : z ≤ 99) (hD : D ≤ 20) (rt cn0 : Nat → Int32) (K71) : ∀ k j (cn : Nat → Int32) (a1 a2 a3 : Int32) (a4 : Bool) (a5 a6 : Int64) (a7 a8 a9 a10 a11 : Int32) (a12 : Bool) (th mk : Int64) (tn sp : Int32) (sz ag tr ca pl lk cs : Nat → Int32) (fr : Nat → Int64) (top : Int32) (fc sk wa : Nat → Int32) (ab : Nat → Int64), j + k = 20 → j ≤ D → j ≤ gR20 g → cY (gA P (gZ' g t z) j) sz ag tr ca pl lk rt cs fr th mk tn sp → c2T P g t z j cn cn0 →
    ∃ (cn' : Nat → Int32) (a1' a2' a3' : Int32) (a4' : Bool) (a5' a6' : Int64) (a7' a8' a9' a10' a11' : Int32) (a12' : Bool) (th' mk' : Int64) (tn' sp' : Int32) (sz' ag' tr' ca' pl' lk' rt' cs' : Nat → Int32) (fr' : Nat → Int64) (top' : Int32) (fc' sk' wa' : Nat → Int32) (ab' : Nat → Int64), mX2_look_117 (nI D) un code cf cl z K71 k (j + 1) cn a1 a2 a3 a4 a5 a6 a7 a8 a9 a10 a11 a12 th mk tn sp sz ag tr ca pl lk rt cs fr top fc sk wa ab = K71 cn' a1' a2' a3' a4' a5' a6' a7' a8' a9' a10' a11' a12' th' mk' tn' sp' sz' ag' tr' ca' pl' lk' rt' cs' fr' top' fc' sk' wa' ab' ∧ c2T P g t z (gMn D g) cn' cn0 := by
  have hR := gR20_le g
  have Wz := gW_z W hg hz0 hz
  intro k
  induction k with
  | zero =>
    intro j cn a1 a2 a3 a4 a5 a6 a7 a8 a9 a10 a11 a12 th mk tn sp sz ag tr ca pl lk cs fr top fc sk wa ab hj hjD hjR Y B
    have e : gMn D g = j := by unfold gMn; split <;> omega
    rw [mX2_look_117, ite_self, e]
    exact ⟨_, _, _, _, _, _, _, _, _, _, _, _, _, _, _, _, _, _, _, _, _, _, _, _, _, _, _, _, _, _, _, rfl, B⟩
  | succ k ih =>
    intro j cn a1 a2 a3 a4 a5 a6 a7 a8 a9 a10 a11 a12 th mk tn sp sz ag tr ca pl lk cs fr top fc sk wa ab hj hjD hjR Y B
    rw [mX2_look_117]
    by_cases x : D < j + 1
    · have e : gMn D g = j := by unfold gMn; split <;> omega
      rw [if_pos (nI_lt x (by omega)), e]
      exact ⟨_, _, _, _, _, _, _, _, _, _, _, _, _, _, _, _, _, _, _, _, _, _, _, _, _, _, _, _, _, _, _, rfl, B⟩
    · rw [if_neg (nI_nlt (by omega) (by omega))]
      obtain ⟨Wj, e8⟩ := gA_W P Wz j
      have e80 : gZ' g t z 8 0 = g 8 0 := gZ'_o (by decide) 0
      have esp : sp = nI (g 8 0 + j) := by rw [Y.2.2.2.2.2.2.2.2, e8, e80]
      by_cases l : g 8 0 + j < 999
      · rw [if_pos (show sp < 999 by rw [esp]; exact nI_lt (b := 999) l (by decide))]
        obtain ⟨W1, b1, b2, b3, b4, b5, b6, b7, b8, b9, b10, b11, b12, ab1, th1, mk1, tn1, sz1, ag1, tr1, ca1, pl1, lk1, cs1, fr1, e, Y1⟩ := c_step hF hU hU2 Wj Y (by rw [e8, e80]; exact l) a5 a6 a7 a8 a9 a10 a11 top a12 fc sk wa ab
        rw [e, xlet_eq]
        simp only [xu_q]
        have Y1' : cY (gA P (gZ' g t z) (j + 1)) sz1 ag1 tr1 ca1 pl1 lk1 rt cs1 fr1 th1 mk1 tn1 (nI ((gTick P (gA P (gZ' g t z) j)).1 8 0)) := Y1
        have W1' : gW (gA P (gZ' g t z) (j + 1)) := W1
        obtain ⟨cn1, q1, q2, q3⟩ := c_count2 W1' Y1' hz (n := j + 1) (by omega) cn
        rw [q1, xlet_eq]
        have hjR1 : j + 1 ≤ gR20 g := by
          unfold gR20
          split <;> omega
        exact ih (j + 1) cn1 _ _ _ _ _ _ _ _ _ _ _ _ th1 mk1 tn1 _ sz1 ag1 tr1 ca1 pl1 lk1 cs1 fr1 _ _ _ _ _ (by omega) (by omega) hjR1 Y1' (c2T_up B (by omega) q2 q3)
      · rw [if_neg (show ¬ sp < 999 by rw [esp]; exact nI_nlt (b := 999) (by omega) (by omega))]
        have e : gMn D g = j := by
          have : gR20 g = j := by
            have := hR.2 h8
            omega
          unfold gMn
          split <;> omega
        rw [e]
        exact ⟨_, _, _, _, _, _, _, _, _, _, _, _, _, _, _, _, _, _, _, _, _, _, _, _, _, _, _, _, _, _, _, rfl, B⟩
/-- the tables of a guess -/
def gT2 (P : GP) (g : GH) (t D Z : Nat) (cn : Nat → Int32) : Prop := ∀ z, 0 < z → z < Z → ∀ m, m ≤ 20 → ∀ k, k < 3 → cn (63 * z + 3 * m + k) = if m ≤ gMn D g then nI (gQ P g t z m k) else -1
theorem c_look71 (hF : cF code cf cl P) (hU : un = nI P.2.2) (hU2 : P.2.2 ≤ 99) (W : gW g) (h8 : g 8 0 ≤ 999) {t D : Nat} (ht : t < 40) (hg : 0 < g 0 t) (hD : D ≤ 20) (ch : Int32) {nth nmk : Int64} {ntn nsp : Int32} {nsz nag ntr nca npl nlk nrt ncs : Nat → Int32} {nfr : Nat → Int64} (Y : cY g nsz nag ntr nca npl nlk nrt ncs nfr nth nmk ntn nsp) : ∀ k z (cn : Nat → Int32) (a1 a2 a3 : Int32) (a4 : Bool) (a5 a6 : Int64) (a7 a8 a9 a10 a11 : Int32) (a12 : Bool) (th mk : Int64) (tn sp : Int32) (sz ag tr ca pl lk rt cs : Nat → Int32) (fr : Nat → Int64) (top : Int32) (fc sk wa : Nat → Int32) (ab : Nat → Int64), z + k = 100 → 0 < z → z ≤ P.2.2 + 1 → gT2 P g t D z cn → (∀ j, 63 * z ≤ j → j < 6300 → cn j = -1) →
    ∃ cn' s, mX2_look_71 (nI t) (nI D) ch nth nmk ntn nsp nsz nag ntr nca npl nlk nrt ncs nfr un code cf cl k z cn a1 a2 a3 a4 a5 a6 a7 a8 a9 a10 a11 a12 th mk tn sp sz ag tr ca pl lk rt cs fr top fc sk wa ab = (nI P.2.2, nI t, nI D, ch, cn', s) ∧ gT2 P g t D (P.2.2 + 1) cn' := by
  intro k
  induction k with
  | zero =>
    intro z cn a1 a2 a3 a4 a5 a6 a7 a8 a9 a10 a11 a12 th mk tn sp sz ag tr ca pl lk rt cs fr top fc sk wa ab hz hz0 hzU T C
    have : z = P.2.2 + 1 := by omega
    rw [mX2_look_71, ite_self, hU, ← this]
    exact ⟨cn, _, rfl, T⟩
  | succ k ih =>
    intro z cn a1 a2 a3 a4 a5 a6 a7 a8 a9 a10 a11 a12 th mk tn sp sz ag tr ca pl lk rt cs fr top fc sk wa ab hz hz0 hzU T C
    rw [mX2_look_71, hU]
    by_cases x : P.2.2 < z
    · have : z = P.2.2 + 1 := by omega
      rw [if_pos (nI_lt x (by omega)), ← this]
      exact ⟨cn, _, rfl, T⟩
    · rw [if_neg (nI_nlt (by omega) (by omega))]
      obtain ⟨sz', ag', tr', ca', pl', lk', rt', cs', fr', q, Y'⟩ := cY_copy W Y sz ag tr ca pl lk rt cs fr
      rw [q, xlet_eq]
      simp only [xu_q]
      rw [s_put 40 t ht (by decide), xlet_eq]
      have Wz := gW_z W hg hz0 (show z ≤ 99 by omega)
      have Yz := cY_z ht hg hz0 Y'
      obtain ⟨cn1, q1, q2, q3⟩ := c_count2 Wz Yz (show z ≤ 99 by omega) (n := 0) (by omega) cn
      rw [show nI 0 = 0 from rfl] at q1
      rw [q1, xlet_eq]
      have B : c2T P g t z 0 cn1 cn1 := by
        refine ⟨fun m hm k hk => ?_, fun _ _ => rfl⟩
        by_cases w : m = 0
        · subst w
          rw [if_pos (Nat.le_refl 0)]
          unfold gQ
          rcases (by omega : k = 0 ∨ k = 1 ∨ k = 2) with rfl | rfl | rfl
          · rw [if_pos rfl]; exact q2.1
          · rw [if_neg (by decide), if_pos rfl]; exact q2.2.1
          · rw [if_neg (by decide), if_neg (by decide)]; exact q2.2.2
        · rw [if_neg (by omega), q3 _ (by omega)]
          exact C _ (by omega) (by omega)
      obtain ⟨cn2, c1, c2, c3, c4, c5, c6, c7, c8, c9, c10, c11, c12, th2, mk2, tn2, sp2, sz2, ag2, tr2, ca2, pl2, lk2, rt2, cs2, fr2, top2, fc2, sk2, wa2, ab2, e, B2⟩ := c_look117 (cf := cf) (cl := cl) hF rfl (show P.2.2 < 1000 by omega) W h8 hg hz0 (show z ≤ 99 by omega) hD rt' cn1 (fun za_counts_71 zmover_f_fell_71 zmover_f_moved_71 zmover_f_cost_71 zmover_f_futile_71 zmover_f_rooted_71 zmover_f_left_71 zmover_f_waits_71 zmover_f_chosen_71 zmover_f_rule_71 zmover_f_stays_71 zmover_f_stayTrain_71 zmover_f_onlyByCar_71 zmover_ahead_f_there_71 zmover_ahead_f_marked_71 zmover_ahead_f_trains_71 zmover_ahead_f_step_71 zmover_ahead_a_size_71 zmover_ahead_a_age_71 zmover_ahead_a_train_71 zmover_ahead_a_car_71 zmover_ahead_a_place_71 zmover_ahead_a_links_71 zmover_ahead_a_roots_71 zmover_ahead_a_cars_71 zmover_ahead_a_from_71 zmover_worth_f_top_71 zmover_worth_a_facts_71 zmover_worth_a_stack_71 zmover_a_waiting_71 zmover_a_aboard_71 => mX2_look_71 (nI t) (nI D) ch nth nmk ntn nsp nsz nag ntr nca npl nlk nrt ncs nfr (nI P.2.2) code cf cl k (z + 1) za_counts_71 zmover_f_fell_71 zmover_f_moved_71 zmover_f_cost_71 zmover_f_futile_71 zmover_f_rooted_71 zmover_f_left_71 zmover_f_waits_71 zmover_f_chosen_71 zmover_f_rule_71 zmover_f_stays_71 zmover_f_stayTrain_71 zmover_f_onlyByCar_71 zmover_ahead_f_there_71 zmover_ahead_f_marked_71 zmover_ahead_f_trains_71 zmover_ahead_f_step_71 zmover_ahead_a_size_71 zmover_ahead_a_age_71 zmover_ahead_a_train_71 zmover_ahead_a_car_71 zmover_ahead_a_place_71 zmover_ahead_a_links_71 zmover_ahead_a_roots_71 zmover_ahead_a_cars_71 zmover_ahead_a_from_71 zmover_worth_f_top_71 zmover_worth_a_facts_71 zmover_worth_a_stack_71 zmover_a_waiting_71 zmover_a_aboard_71) 20 0 cn1 a1 a2 a3 a4 a5 a6 a7 a8 a9 a10 a11 a12 nth nmk ntn nsp (upd sz' t (nI z)) ag' tr' ca' pl' lk' cs' fr' top fc sk wa ab rfl (Nat.zero_le _) (Nat.zero_le _) Yz B
      rw [e]
      have ix := ih (z + 1) cn2 c1 c2 c3 c4 c5 c6 c7 c8 c9 c10 c11 c12 th2 mk2 tn2 sp2 sz2 ag2 tr2 ca2 pl2 lk2 rt2 cs2 fr2 top2 fc2 sk2 wa2 ab2 (by omega) (by omega) (by omega) (fun y hy0 hy m hm k hk => by
        by_cases w : y = z
        · subst w; exact B2.1 m hm k hk
        · rw [B2.2 _ (by omega), q3 _ (by omega)]
          exact T y hy0 (by omega) m hm k hk) (fun j hj hj2 => by
        rw [B2.2 _ (by omega), q3 _ (by omega)]
        exact C j (by omega) hj2)
      rw [hU] at ix
      exact ix
/-- the class looks for a GUESS -/
theorem c_look2 (hF : cF code cf cl P) (hU : un = nI P.2.2) (hU2 : P.2.2 ≤ 99) (W : gW g) (h8 : g 8 0 ≤ 999) {t D : Nat} (ht : t < 40) (hg : 0 < g 0 t) (hD : D ≤ 20) {sz ag tr ca pl lk rt cs : Nat → Int32} {fr : Nat → Int64} {th mk : Int64} {tn sp : Int32} (Y : cY g sz ag tr ca pl lk rt cs fr th mk tn sp) {ch fu' ft fd kn : Int32} {cn : Nat → Int32} (hk : kn = ch → ft = nI t → ∃ D', fd = nI D' ∧ D' ≤ 20 ∧ fu' = nI P.2.2 ∧ gT2 P g t D' (P.2.2 + 1) cn)
    (a1 a2 a3 : Int32) (a4 : Bool) (a5 a6 : Int64) (a7 a8 a9 a10 a11 : Int32) (a12 : Bool) (m1 m2 : Int64) (m3 m4 : Int32) (n1 n2 n3 n4 n5 n6 n7 n8 : Nat → Int32) (n9 : Nat → Int64) (top : Int32) (fc sk wa : Nat → Int32) (ab : Nat → Int64) :
    ∃ D' cn' s, mX2_look (nI t) (nI D) ch fu' ft fd kn cn th mk tn sp sz ag tr ca pl lk rt cs fr un code cf cl a1 a2 a3 a4 a5 a6 a7 a8 a9 a10 a11 a12 m1 m2 m3 m4 n1 n2 n3 n4 n5 n6 n7 n8 n9 top fc sk wa ab = (nI P.2.2, nI t, nI D', ch, cn', s) ∧ D ≤ D' ∧ D' ≤ 20 ∧ gT2 P g t D' (P.2.2 + 1) cn' := by
  have go : ∃ D' cn' s, mX2_look_28 (nI t) (nI D) ch cn th mk tn sp sz ag tr ca pl lk rt cs fr un code cf cl a1 a2 a3 a4 a5 a6 a7 a8 a9 a10 a11 a12 m1 m2 m3 m4 n1 n2 n3 n4 n5 n6 n7 n8 n9 top fc sk wa ab = (nI P.2.2, nI t, nI D', ch, cn', s) ∧ D ≤ D' ∧ D' ≤ 20 ∧ gT2 P g t D' (P.2.2 + 1) cn' := by
    unfold mX2_look_28
    rw [xlet_eq]
    obtain ⟨cn', s, e, T⟩ := c_look71 hF hU hU2 W h8 ht hg hD ch Y 99 1 (mJ7_fill_53178 6300 (-1) cn) a1 a2 a3 a4 a5 a6 a7 a8 a9 a10 a11 a12 m1 m2 m3 m4 n1 n2 n3 n4 n5 n6 n7 n8 n9 top fc sk wa ab rfl (by decide) (by omega) (fun y hy0 hy => by omega) (fun j _ hj => s_fillb 6300 (by decide) (-1) cn j hj)
    exact ⟨D, cn', s, e, Nat.le_refl D, hD, T⟩
  unfold mX2_look
  by_cases e1 : kn = ch
  · rw [if_pos e1]
    by_cases e2 : ft = nI t
    · rw [if_pos e2]
      obtain ⟨D', d1, d2, d3, d4⟩ := hk e1 e2
      by_cases e3 : fd < nI D
      · rw [if_pos e3]; exact go
      · rw [if_neg e3, e1, e2, d3]
        refine ⟨D', cn, _, by rw [d1], ?_, d2, d4⟩
        rw [d1] at e3
        refine Decidable.byContradiction (fun w => e3 (nI_lt (by omega) (by omega)))
    · rw [if_neg e2]; exact go
  · rw [if_neg e1]; exact go
end LG2
