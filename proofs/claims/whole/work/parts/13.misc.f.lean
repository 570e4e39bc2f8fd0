def mX0_retained (v_t : Int32) (y_f_there : Int64) (y_a_links : Nat → Int32) (y_a_roots : Nat → Int32) : Int32 :=
  (mJ13_bitCount_95d88 (mX10_live y_f_there y_a_links y_a_roots)) - (mJ13_bitCount_95d88 (mX10_reach ((mX10_rooted y_a_roots) &&& ((mX11_bit v_t) ^^^ (-1))) (y_f_there &&& ((mX11_bit v_t) ^^^ (-1))) y_a_links))
def mX0_distance_86 (v_t : Int32)  (x2_86 : Int64) (x4_86 : Int32) : Int32 :=
  if (mX11_in x2_86 v_t) = true then
    x4_86
  else
    ((-1) : Int32)
def mX0_distance_37 (y_a_links : Nat → Int32) (x2_16 : Int64) (x4_16 : Int32) (K16 : Int64 → Int32 → Int32) : Nat → Nat → Int64 → Int32
  | 0, i37, x6_37 => K16 x6_37 (x4_16 + 1)
  | k37 + 1, i37, x6_37 =>
    if (mX11_in x2_16 (nI i37)) = true then
      mX0_distance_37 y_a_links x2_16 x4_16 K16 k37 (i37 + 1) (x6_37 ||| (mX10_linkedFrom (nI i37) y_a_links))
    else
      mX0_distance_37 y_a_links x2_16 x4_16 K16 k37 (i37 + 1) (x6_37 ||| 0)
def mX0_distance_16 (v_t : Int32) (y_a_links : Nat → Int32)  : Nat → Nat → Int64 → Int32 → Int32
  | 0, i16, x2_16, x4_16 => mX0_distance_86 v_t x2_16 x4_16
  | k16 + 1, i16, x2_16, x4_16 =>
    if (mX11_in x2_16 v_t) = true then
      mX0_distance_86 v_t x2_16 x4_16
    else
      mX0_distance_37 y_a_links x2_16 x4_16 (fun zx2_16 zx4_16 => mX0_distance_16 v_t y_a_links k16 (i16 + 1) zx2_16 zx4_16) 40 0 x2_16
def mX0_distance (v_t : Int32) (y_f_there : Int64) (y_a_links : Nat → Int32) (y_a_roots : Nat → Int32) : Int32 :=
  mX0_distance_16 v_t y_a_links 40 0 ((mX10_rooted y_a_roots) &&& y_f_there) (0 : Int32)
def mX0_weighHolder (v_live : Int64) (v_t : Int32) (v_number : Int32) (n_found : Nat) (y_f_there : Int64) (y_a_links : Nat → Int32) (y_a_roots : Nat → Int32) (a_found : Nat → Int32) : (Nat → Int32) :=
  if (mX11_at n_found (2 : Int32) a_found) < ((mJ13_bitCount_95d88 v_live) - (mJ13_bitCount_95d88 (mX10_live y_f_there y_a_links y_a_roots))) then
    xlet (mX11_put n_found (0 : Int32) v_t a_found) (fun q2 =>
      xlet (mX11_put n_found (1 : Int32) v_number q2) (fun q3 =>
        xlet (mX11_put n_found (2 : Int32) ((mJ13_bitCount_95d88 v_live) - (mJ13_bitCount_95d88 (mX10_live y_f_there y_a_links y_a_roots))) q3) (fun q4 =>
          q4)))
  else
    a_found
def mX0_findHolder_71 (n_found : Nat) (y_f_there : Int64) (y_a_links : Nat → Int32) (y_a_roots : Nat → Int32)  : Nat → Nat → (Nat → Int32) → (Nat → Int32) → (Nat → Int32) → Bool × (Nat → Int32) × (Nat → Int32) × (Nat → Int32)
  | 0, i71, y_a_links_71, y_a_roots_71, a_found_71 => if (mX11_at n_found (2 : Int32) a_found_71) = (-1) then
      (false, y_a_links_71, y_a_roots_71, a_found_71)
    else
      (true, y_a_links_71, y_a_roots_71, a_found_71)
  | k71 + 1, i71, y_a_links_71, y_a_roots_71, a_found_71 =>
    if (mX11_in (mX10_live y_f_there y_a_links y_a_roots) ((nI i71) / 4)) = true then
      if (y_a_links_71 (nI i71).toNatClampNeg) = (-1) then
        mX0_findHolder_71 n_found y_f_there y_a_links y_a_roots k71 (i71 + 1) y_a_links_71 y_a_roots_71 a_found_71
      else
        xlet (mX0_weighHolder (mX10_live y_f_there y_a_links y_a_roots) ((nI i71) / 4) ((nI i71) - (nI i71) / 4 * 4) n_found y_f_there (upd y_a_links_71 (nI i71).toNatClampNeg (-1)) y_a_roots_71 a_found_71) (fun q6 =>
          mX0_findHolder_71 n_found y_f_there y_a_links y_a_roots k71 (i71 + 1) (upd (upd y_a_links_71 (nI i71).toNatClampNeg (-1)) (nI i71).toNatClampNeg (y_a_links_71 (nI i71).toNatClampNeg)) y_a_roots_71 q6)
    else
      mX0_findHolder_71 n_found y_f_there y_a_links y_a_roots k71 (i71 + 1) y_a_links_71 y_a_roots_71 a_found_71
def mX0_findHolder_14 (n_found : Nat) (y_f_there : Int64) (y_a_links : Nat → Int32) (y_a_roots : Nat → Int32)  : Nat → Nat → (Nat → Int32) → (Nat → Int32) → Bool × (Nat → Int32) × (Nat → Int32) × (Nat → Int32)
  | 0, i14, y_a_roots_14, a_found_14 => mX0_findHolder_71 n_found y_f_there y_a_links y_a_roots 160 0 y_a_links y_a_roots_14 a_found_14
  | k14 + 1, i14, y_a_roots_14, a_found_14 =>
    if (y_a_roots_14 (nI i14).toNatClampNeg) = (-1) then
      mX0_findHolder_14 n_found y_f_there y_a_links y_a_roots k14 (i14 + 1) y_a_roots_14 a_found_14
    else
      xlet (mX0_weighHolder (mX10_live y_f_there y_a_links y_a_roots) ((-1) : Int32) (nI i14) n_found y_f_there y_a_links (upd y_a_roots_14 (nI i14).toNatClampNeg (-1)) a_found_14) (fun q3 =>
        mX0_findHolder_14 n_found y_f_there y_a_links y_a_roots k14 (i14 + 1) (upd (upd y_a_roots_14 (nI i14).toNatClampNeg (-1)) (nI i14).toNatClampNeg (y_a_roots_14 (nI i14).toNatClampNeg)) q3)
def mX0_findHolder (n_found : Nat) (y_f_there : Int64) (y_a_links : Nat → Int32) (y_a_roots : Nat → Int32) (a_found : Nat → Int32) : Bool × (Nat → Int32) × (Nat → Int32) × (Nat → Int32) :=
  xlet (mX11_put n_found (2 : Int32) ((-1) : Int32) a_found) (fun q1 =>
    mX0_findHolder_14 n_found y_f_there y_a_links y_a_roots 8 0 y_a_roots q1)
def mX0_leadingTo_31 (v_within : Int64) (y_a_links : Nat → Int32) (x4_12 : Int64) (K12 : Int64 → Int32 → Int64) : Nat → Nat → Int64 → Int64
  | 0, i31, x4_31 => if x4_31 = x4_12 then
      K12 x4_31 (0 : Int32)
    else
      K12 x4_31 (1 : Int32)
  | k31 + 1, i31, x4_31 =>
    if (mX11_in (v_within &&& (x4_31 ^^^ (-1))) (nI i31)) = true then
      if ((mX10_linkedFrom (nI i31) y_a_links) &&& x4_31) = (0 : Int64) then
        mX0_leadingTo_31 v_within y_a_links x4_12 K12 k31 (i31 + 1) x4_31
      else
        mX0_leadingTo_31 v_within y_a_links x4_12 K12 k31 (i31 + 1) (x4_31 ||| (mX11_bit (nI i31)))
    else
      mX0_leadingTo_31 v_within y_a_links x4_12 K12 k31 (i31 + 1) x4_31
def mX0_leadingTo_12 (v_within : Int64) (y_a_links : Nat → Int32)  : Nat → Nat → Int64 → Int32 → Int64
  | 0, i12, x4_12, x6_12 => x4_12 &&& v_within
  | k12 + 1, i12, x4_12, x6_12 =>
    if x6_12 = 0 then
      x4_12 &&& v_within
    else
      mX0_leadingTo_31 v_within y_a_links x4_12 (fun zx4_12 zx6_12 => mX0_leadingTo_12 v_within y_a_links k12 (i12 + 1) zx4_12 zx6_12) 40 0 x4_12
def mX0_leadingTo (v_t : Int32) (v_within : Int64) (y_a_links : Nat → Int32) : Int64 :=
  mX0_leadingTo_12 v_within y_a_links 40 0 (mX11_bit v_t) (1 : Int32)
def mX0_rowsAlive_17 (v_t : Int32) (y_f_there : Int64) (y_a_links : Nat → Int32) (y_a_roots : Nat → Int32)  : Nat → Nat → Int32 → (Nat → Int32) → Int32 × (Nat → Int32)
  | 0, i17, x5_17, y_a_links_17 => (x5_17, y_a_links_17)
  | k17 + 1, i17, x5_17, y_a_links_17 =>
    if (mX11_in (mX10_live y_f_there y_a_links y_a_roots) ((nI i17) / 4)) = true then
      if (mX11_in (mX10_live y_f_there (upd y_a_links_17 (nI i17).toNatClampNeg (-1)) y_a_roots) v_t) = true then
        mX0_rowsAlive_17 v_t y_f_there y_a_links y_a_roots k17 (i17 + 1) (x5_17 + (mJ13_bitCount_95d88 (mX10_live y_f_there y_a_links y_a_roots))) (upd (upd y_a_links_17 (nI i17).toNatClampNeg (-1)) (nI i17).toNatClampNeg (y_a_links_17 (nI i17).toNatClampNeg))
      else
        mX0_rowsAlive_17 v_t y_f_there y_a_links y_a_roots k17 (i17 + 1) (x5_17 + (mJ13_bitCount_95d88 (mX0_leadingTo v_t (mX10_live y_f_there y_a_links y_a_roots) (upd y_a_links_17 (nI i17).toNatClampNeg (-1))))) (upd (upd y_a_links_17 (nI i17).toNatClampNeg (-1)) (nI i17).toNatClampNeg (y_a_links_17 (nI i17).toNatClampNeg))
    else
      mX0_rowsAlive_17 v_t y_f_there y_a_links y_a_roots k17 (i17 + 1) x5_17 y_a_links_17
def mX0_rowsAlive (v_t : Int32) (y_f_there : Int64) (y_a_links : Nat → Int32) (y_a_roots : Nat → Int32) : Int32 × (Nat → Int32) :=
  mX0_rowsAlive_17 v_t y_f_there y_a_links y_a_roots 160 0 (0 : Int32) y_a_links
def mX1_add_30 (v_step : Int32) (v_fell : Int32) (v_moved : Int32)  (f_count_30 : Int32) (a_rows_30 : Nat → Int32) : Int32 × (Nat → Int32) :=
  xlet (mX11_put 120 (f_count_30 * 3) v_step a_rows_30) (fun q2 =>
    xlet (mX11_put 120 ((f_count_30 * 3) + 1) v_fell q2) (fun q3 =>
      xlet (mX11_put 120 ((f_count_30 * 3) + 2) v_moved q3) (fun q4 =>
        (f_count_30 + 1, q4))))
def mX1_add (v_step : Int32) (v_fell : Int32) (v_moved : Int32) (f_count : Int32) (a_rows : Nat → Int32) : Int32 × (Nat → Int32) :=
  if f_count < 40 then
    mX1_add_30 v_step v_fell v_moved f_count a_rows
  else
    mX1_add_30 v_step v_fell v_moved (39 : Int32) (va_cpy a_rows a_rows 3 0 117)
def mX1_told_26 (v_k : Int32) (v_what : Int32) (a_rows : Nat → Int32)  (s0_26 : Int32) : Int32 :=
  if s0_26 = 0 then
    ((-1) : Int32)
  else
    mX11_at 120 ((v_k * 3) + v_what) a_rows
def mX1_told_25 (v_k : Int32) (v_what : Int32) (a_rows : Nat → Int32)   : Int32 :=
  mX1_told_26 v_k v_what a_rows (0 : Int32)
def mX1_told (v_k : Int32) (v_what : Int32) (f_count : Int32) (a_rows : Nat → Int32) : Int32 :=
  if v_k < 0 then
    mX1_told_25 v_k v_what a_rows
  else
    if v_k < f_count then
      if v_what < 0 then
        mX1_told_25 v_k v_what a_rows
      else
        if v_what < 3 then
          mX1_told_26 v_k v_what a_rows (1 : Int32)
        else
          mX1_told_25 v_k v_what a_rows
    else
      mX1_told_25 v_k v_what a_rows
def mX1_copy (a_rows : Nat → Int32) (other_f_count : Int32) (other_a_rows : Nat → Int32) : Int32 × (Nat → Int32) :=
  (other_f_count, va_cpy other_a_rows a_rows 0 0 120)
def mX2_forget  : Int32 :=
  (0 : Int32)
def mX2_meetRows_24 (v_length : Int32) (f_met : Int32) (a_rows : Nat → Int32) (a_tape : Nat → Int32)  : Nat → Bool → Int32 → Option (Bool × Int32 × (Nat → Int32))
  | 0, x3_24, x4_24 => none
  | k24 + 1, x3_24, x4_24 =>
    if x4_24 < v_length then
      if x3_24 = true then
        if 20 < (mX11_at 1600 x4_24 a_tape) then
          mX2_meetRows_24 v_length f_met a_rows a_tape k24 false (x4_24 + 3)
        else
          if (mX11_at 1600 (x4_24 + 1) a_tape) < 3 then
            if 40 < (mX11_at 1600 (x4_24 + 2) a_tape) then
              mX2_meetRows_24 v_length f_met a_rows a_tape k24 false (x4_24 + 3)
            else
              mX2_meetRows_24 v_length f_met a_rows a_tape k24 true (x4_24 + 3)
          else
            mX2_meetRows_24 v_length f_met a_rows a_tape k24 false (x4_24 + 3)
      else
        mX2_meetRows_24 v_length f_met a_rows a_tape k24 false (x4_24 + 3)
    else
      if x3_24 = true then
        some (x3_24, v_length / 3, va_cpy a_tape a_rows 0 0 v_length.toNatClampNeg)
      else
        some (x3_24, f_met, a_rows)
def mX2_meetRows (v_length : Int32) (f_met : Int32) (a_rows : Nat → Int32) (a_tape : Nat → Int32) : Option (Bool × Int32 × (Nat → Int32)) :=
  if v_length < 3 then
    some (false, f_met, a_rows)
  else
    if 48 < v_length then
      some (false, f_met, a_rows)
    else
      if (v_length - v_length / 3 * 3) = 0 then
        mX2_meetRows_24 v_length f_met a_rows a_tape xfuel true (0 : Int32)
      else
        some (false, f_met, a_rows)
def mX2_farthest_4 (f_met : Int32) (a_rows : Nat → Int32)  : Nat → Nat → Int32 → Int32
  | 0, i4, x1_4 => if (nI i4) < f_met then
      x1_4
    else
      x1_4
  | k4 + 1, i4, x1_4 =>
    if (nI i4) < f_met then
      if x1_4 < (mX11_at 48 ((nI i4) * 3) a_rows) then
        mX2_farthest_4 f_met a_rows k4 (i4 + 1) (mX11_at 48 ((nI i4) * 3) a_rows)
      else
        mX2_farthest_4 f_met a_rows k4 (i4 + 1) x1_4
    else
      x1_4
def mX2_farthest (f_met : Int32) (a_rows : Nat → Int32) : Int32 :=
  mX2_farthest_4 f_met a_rows 16 0 (0 : Int32)
def mX2_count (v_s : Int32) (v_n : Int32) (a_counts : Nat → Int32) (y_f_there : Int64) (y_f_trains : Int32) (y_a_cars : Nat → Int32) : (Nat → Int32) :=
  xlet (mX11_put 6300 ((v_s * 63) + (v_n * 3)) y_f_trains a_counts) (fun q1 =>
    xlet (mX11_put 6300 (((v_s * 63) + (v_n * 3)) + 1) (mX10_allCars y_f_trains y_a_cars) q1) (fun q2 =>
      xlet (mX11_put 6300 (((v_s * 63) + (v_n * 3)) + 2) (mJ13_bitCount_95d88 y_f_there) q2) (fun q3 =>
        q3)))
def mX2_look_117 (v_need : Int32) (plan_f_units : Int32) (plan_a_code : Nat → Int32) (plan_a_codeFrom : Nat → Int32) (plan_a_codeLength : Nat → Int32) (i71 : Nat) (K71 : (Nat → Int32) → Int32 → Int32 → Int32 → Bool → Int64 → Int64 → Int32 → Int32 → Int32 → Int32 → Int32 → Bool → Int64 → Int64 → Int32 → Int32 → (Nat → Int32) → (Nat → Int32) → (Nat → Int32) → (Nat → Int32) → (Nat → Int32) → (Nat → Int32) → (Nat → Int32) → (Nat → Int32) → (Nat → Int64) → Int32 → (Nat → Int32) → (Nat → Int32) → (Nat → Int32) → (Nat → Int64) → Int32 × Int32 × Int32 × Int32 × (Nat → Int32) × Int32 × Int32 × Int32 × Bool × Int64 × Int64 × Int32 × Int32 × Int32 × Int32 × Int32 × Bool × Int64 × Int64 × Int32 × Int32 × (Nat → Int32) × (Nat → Int32) × (Nat → Int32) × (Nat → Int32) × (Nat → Int32) × (Nat → Int32) × (Nat → Int32) × (Nat → Int32) × (Nat → Int64) × Int32 × (Nat → Int32) × (Nat → Int32) × (Nat → Int32) × (Nat → Int64)) : Nat → Nat → (Nat → Int32) → Int32 → Int32 → Int32 → Bool → Int64 → Int64 → Int32 → Int32 → Int32 → Int32 → Int32 → Bool → Int64 → Int64 → Int32 → Int32 → (Nat → Int32) → (Nat → Int32) → (Nat → Int32) → (Nat → Int32) → (Nat → Int32) → (Nat → Int32) → (Nat → Int32) → (Nat → Int32) → (Nat → Int64) → Int32 → (Nat → Int32) → (Nat → Int32) → (Nat → Int32) → (Nat → Int64) → Int32 × Int32 × Int32 × Int32 × (Nat → Int32) × Int32 × Int32 × Int32 × Bool × Int64 × Int64 × Int32 × Int32 × Int32 × Int32 × Int32 × Bool × Int64 × Int64 × Int32 × Int32 × (Nat → Int32) × (Nat → Int32) × (Nat → Int32) × (Nat → Int32) × (Nat → Int32) × (Nat → Int32) × (Nat → Int32) × (Nat → Int32) × (Nat → Int64) × Int32 × (Nat → Int32) × (Nat → Int32) × (Nat → Int32) × (Nat → Int64)
  | 0, i117, a_counts_117, mover_f_fell_117, mover_f_moved_117, mover_f_cost_117, mover_f_futile_117, mover_f_rooted_117, mover_f_left_117, mover_f_waits_117, mover_f_chosen_117, mover_f_rule_117, mover_f_stays_117, mover_f_stayTrain_117, mover_f_onlyByCar_117, mover_ahead_f_there_117, mover_ahead_f_marked_117, mover_ahead_f_trains_117, mover_ahead_f_step_117, mover_ahead_a_size_117, mover_ahead_a_age_117, mover_ahead_a_train_117, mover_ahead_a_car_117, mover_ahead_a_place_117, mover_ahead_a_links_117, mover_ahead_a_roots_117, mover_ahead_a_cars_117, mover_ahead_a_from_117, mover_worth_f_top_117, mover_worth_a_facts_117, mover_worth_a_stack_117, mover_a_waiting_117, mover_a_aboard_117 => if v_need < (nI i117) then
      K71 a_counts_117 mover_f_fell_117 mover_f_moved_117 mover_f_cost_117 mover_f_futile_117 mover_f_rooted_117 mover_f_left_117 mover_f_waits_117 mover_f_chosen_117 mover_f_rule_117 mover_f_stays_117 mover_f_stayTrain_117 mover_f_onlyByCar_117 mover_ahead_f_there_117 mover_ahead_f_marked_117 mover_ahead_f_trains_117 mover_ahead_f_step_117 mover_ahead_a_size_117 mover_ahead_a_age_117 mover_ahead_a_train_117 mover_ahead_a_car_117 mover_ahead_a_place_117 mover_ahead_a_links_117 mover_ahead_a_roots_117 mover_ahead_a_cars_117 mover_ahead_a_from_117 mover_worth_f_top_117 mover_worth_a_facts_117 mover_worth_a_stack_117 mover_a_waiting_117 mover_a_aboard_117
    else
      K71 a_counts_117 mover_f_fell_117 mover_f_moved_117 mover_f_cost_117 mover_f_futile_117 mover_f_rooted_117 mover_f_left_117 mover_f_waits_117 mover_f_chosen_117 mover_f_rule_117 mover_f_stays_117 mover_f_stayTrain_117 mover_f_onlyByCar_117 mover_ahead_f_there_117 mover_ahead_f_marked_117 mover_ahead_f_trains_117 mover_ahead_f_step_117 mover_ahead_a_size_117 mover_ahead_a_age_117 mover_ahead_a_train_117 mover_ahead_a_car_117 mover_ahead_a_place_117 mover_ahead_a_links_117 mover_ahead_a_roots_117 mover_ahead_a_cars_117 mover_ahead_a_from_117 mover_worth_f_top_117 mover_worth_a_facts_117 mover_worth_a_stack_117 mover_a_waiting_117 mover_a_aboard_117
  | k117 + 1, i117, a_counts_117, mover_f_fell_117, mover_f_moved_117, mover_f_cost_117, mover_f_futile_117, mover_f_rooted_117, mover_f_left_117, mover_f_waits_117, mover_f_chosen_117, mover_f_rule_117, mover_f_stays_117, mover_f_stayTrain_117, mover_f_onlyByCar_117, mover_ahead_f_there_117, mover_ahead_f_marked_117, mover_ahead_f_trains_117, mover_ahead_f_step_117, mover_ahead_a_size_117, mover_ahead_a_age_117, mover_ahead_a_train_117, mover_ahead_a_car_117, mover_ahead_a_place_117, mover_ahead_a_links_117, mover_ahead_a_roots_117, mover_ahead_a_cars_117, mover_ahead_a_from_117, mover_worth_f_top_117, mover_worth_a_facts_117, mover_worth_a_stack_117, mover_a_waiting_117, mover_a_aboard_117 =>
    if v_need < (nI i117) then
      K71 a_counts_117 mover_f_fell_117 mover_f_moved_117 mover_f_cost_117 mover_f_futile_117 mover_f_rooted_117 mover_f_left_117 mover_f_waits_117 mover_f_chosen_117 mover_f_rule_117 mover_f_stays_117 mover_f_stayTrain_117 mover_f_onlyByCar_117 mover_ahead_f_there_117 mover_ahead_f_marked_117 mover_ahead_f_trains_117 mover_ahead_f_step_117 mover_ahead_a_size_117 mover_ahead_a_age_117 mover_ahead_a_train_117 mover_ahead_a_car_117 mover_ahead_a_place_117 mover_ahead_a_links_117 mover_ahead_a_roots_117 mover_ahead_a_cars_117 mover_ahead_a_from_117 mover_worth_f_top_117 mover_worth_a_facts_117 mover_worth_a_stack_117 mover_a_waiting_117 mover_a_aboard_117
    else
      if mover_ahead_f_step_117 < 999 then
        xlet (mX3_step mover_f_rooted_117 mover_f_left_117 mover_f_waits_117 mover_f_chosen_117 mover_f_rule_117 mover_f_stays_117 mover_f_stayTrain_117 mover_f_onlyByCar_117 mover_worth_f_top_117 mover_worth_a_facts_117 mover_worth_a_stack_117 mover_a_waiting_117 mover_a_aboard_117 mover_ahead_f_there_117 mover_ahead_f_marked_117 mover_ahead_f_trains_117 mover_ahead_f_step_117 mover_ahead_a_size_117 mover_ahead_a_age_117 mover_ahead_a_train_117 mover_ahead_a_car_117 mover_ahead_a_place_117 mover_ahead_a_links_117 mover_ahead_a_roots_117 mover_ahead_a_cars_117 mover_ahead_a_from_117 plan_f_units plan_a_code plan_a_codeFrom plan_a_codeLength) (xu fun q12_1 => xu fun q12_2 => xu fun q12_3 => xu fun q12_4 => xu fun q12_5 => xu fun q12_6 => xu fun q12_7 => xu fun q12_8 => xu fun q12_9 => xu fun q12_10 => xu fun q12_11 => xu fun q12_12 => xu fun q12_13 => xu fun q12_14 => xu fun q12_15 => xu fun q12_16 => xu fun q12_17 => xu fun q12_18 => xu fun q12_19 => xu fun q12_20 => xu fun q12_21 => xu fun q12_22 => xu fun q12_23 => xu fun q12_24 => xu fun q12_25 => xu fun q12_26 => xu fun q12_27 => xu fun q12_28 => fun q12_29 =>
          xlet (mX2_count (nI i71) (nI i117) a_counts_117 q12_18 q12_20 q12_28) (fun q13 =>
            mX2_look_117 v_need plan_f_units plan_a_code plan_a_codeFrom plan_a_codeLength i71 K71 k117 (i117 + 1) q13 q12_1 q12_2 q12_3 q12_4 q12_5 q12_6 q12_7 q12_8 q12_9 q12_10 q12_11 q12_12 q12_18 q12_19 q12_20 q12_21 q12_22 q12_23 q12_24 q12_25 q12_26 q12_27 mover_ahead_a_roots_117 q12_28 q12_29 q12_13 q12_14 q12_15 q12_16 q12_17))
      else
        K71 a_counts_117 mover_f_fell_117 mover_f_moved_117 mover_f_cost_117 mover_f_futile_117 mover_f_rooted_117 mover_f_left_117 mover_f_waits_117 mover_f_chosen_117 mover_f_rule_117 mover_f_stays_117 mover_f_stayTrain_117 mover_f_onlyByCar_117 mover_ahead_f_there_117 mover_ahead_f_marked_117 mover_ahead_f_trains_117 mover_ahead_f_step_117 mover_ahead_a_size_117 mover_ahead_a_age_117 mover_ahead_a_train_117 mover_ahead_a_car_117 mover_ahead_a_place_117 mover_ahead_a_links_117 mover_ahead_a_roots_117 mover_ahead_a_cars_117 mover_ahead_a_from_117 mover_worth_f_top_117 mover_worth_a_facts_117 mover_worth_a_stack_117 mover_a_waiting_117 mover_a_aboard_117
def mX2_look_71 (v_about : Int32) (v_need : Int32) (v_change : Int32) (now_f_there : Int64) (now_f_marked : Int64) (now_f_trains : Int32) (now_f_step : Int32) (now_a_size : Nat → Int32) (now_a_age : Nat → Int32) (now_a_train : Nat → Int32) (now_a_car : Nat → Int32) (now_a_place : Nat → Int32) (now_a_links : Nat → Int32) (now_a_roots : Nat → Int32) (now_a_cars : Nat → Int32) (now_a_from : Nat → Int64) (plan_f_units : Int32) (plan_a_code : Nat → Int32) (plan_a_codeFrom : Nat → Int32) (plan_a_codeLength : Nat → Int32)  : Nat → Nat → (Nat → Int32) → Int32 → Int32 → Int32 → Bool → Int64 → Int64 → Int32 → Int32 → Int32 → Int32 → Int32 → Bool → Int64 → Int64 → Int32 → Int32 → (Nat → Int32) → (Nat → Int32) → (Nat → Int32) → (Nat → Int32) → (Nat → Int32) → (Nat → Int32) → (Nat → Int32) → (Nat → Int32) → (Nat → Int64) → Int32 → (Nat → Int32) → (Nat → Int32) → (Nat → Int32) → (Nat → Int64) → Int32 × Int32 × Int32 × Int32 × (Nat → Int32) × Int32 × Int32 × Int32 × Bool × Int64 × Int64 × Int32 × Int32 × Int32 × Int32 × Int32 × Bool × Int64 × Int64 × Int32 × Int32 × (Nat → Int32) × (Nat → Int32) × (Nat → Int32) × (Nat → Int32) × (Nat → Int32) × (Nat → Int32) × (Nat → Int32) × (Nat → Int32) × (Nat → Int64) × Int32 × (Nat → Int32) × (Nat → Int32) × (Nat → Int32) × (Nat → Int64)
  | 0, i71, a_counts_71, mover_f_fell_71, mover_f_moved_71, mover_f_cost_71, mover_f_futile_71, mover_f_rooted_71, mover_f_left_71, mover_f_waits_71, mover_f_chosen_71, mover_f_rule_71, mover_f_stays_71, mover_f_stayTrain_71, mover_f_onlyByCar_71, mover_ahead_f_there_71, mover_ahead_f_marked_71, mover_ahead_f_trains_71, mover_ahead_f_step_71, mover_ahead_a_size_71, mover_ahead_a_age_71, mover_ahead_a_train_71, mover_ahead_a_car_71, mover_ahead_a_place_71, mover_ahead_a_links_71, mover_ahead_a_roots_71, mover_ahead_a_cars_71, mover_ahead_a_from_71, mover_worth_f_top_71, mover_worth_a_facts_71, mover_worth_a_stack_71, mover_a_waiting_71, mover_a_aboard_71 => if plan_f_units < (nI i71) then
      (plan_f_units, v_about, v_need, v_change, a_counts_71, mover_f_fell_71, mover_f_moved_71, mover_f_cost_71, mover_f_futile_71, mover_f_rooted_71, mover_f_left_71, mover_f_waits_71, mover_f_chosen_71, mover_f_rule_71, mover_f_stays_71, mover_f_stayTrain_71, mover_f_onlyByCar_71, mover_ahead_f_there_71, mover_ahead_f_marked_71, mover_ahead_f_trains_71, mover_ahead_f_step_71, mover_ahead_a_size_71, mover_ahead_a_age_71, mover_ahead_a_train_71, mover_ahead_a_car_71, mover_ahead_a_place_71, mover_ahead_a_links_71, mover_ahead_a_roots_71, mover_ahead_a_cars_71, mover_ahead_a_from_71, mover_worth_f_top_71, mover_worth_a_facts_71, mover_worth_a_stack_71, mover_a_waiting_71, mover_a_aboard_71)
    else
      (plan_f_units, v_about, v_need, v_change, a_counts_71, mover_f_fell_71, mover_f_moved_71, mover_f_cost_71, mover_f_futile_71, mover_f_rooted_71, mover_f_left_71, mover_f_waits_71, mover_f_chosen_71, mover_f_rule_71, mover_f_stays_71, mover_f_stayTrain_71, mover_f_onlyByCar_71, mover_ahead_f_there_71, mover_ahead_f_marked_71, mover_ahead_f_trains_71, mover_ahead_f_step_71, mover_ahead_a_size_71, mover_ahead_a_age_71, mover_ahead_a_train_71, mover_ahead_a_car_71, mover_ahead_a_place_71, mover_ahead_a_links_71, mover_ahead_a_roots_71, mover_ahead_a_cars_71, mover_ahead_a_from_71, mover_worth_f_top_71, mover_worth_a_facts_71, mover_worth_a_stack_71, mover_a_waiting_71, mover_a_aboard_71)
  | k71 + 1, i71, a_counts_71, mover_f_fell_71, mover_f_moved_71, mover_f_cost_71, mover_f_futile_71, mover_f_rooted_71, mover_f_left_71, mover_f_waits_71, mover_f_chosen_71, mover_f_rule_71, mover_f_stays_71, mover_f_stayTrain_71, mover_f_onlyByCar_71, mover_ahead_f_there_71, mover_ahead_f_marked_71, mover_ahead_f_trains_71, mover_ahead_f_step_71, mover_ahead_a_size_71, mover_ahead_a_age_71, mover_ahead_a_train_71, mover_ahead_a_car_71, mover_ahead_a_place_71, mover_ahead_a_links_71, mover_ahead_a_roots_71, mover_ahead_a_cars_71, mover_ahead_a_from_71, mover_worth_f_top_71, mover_worth_a_facts_71, mover_worth_a_stack_71, mover_a_waiting_71, mover_a_aboard_71 =>
    if plan_f_units < (nI i71) then
      (plan_f_units, v_about, v_need, v_change, a_counts_71, mover_f_fell_71, mover_f_moved_71, mover_f_cost_71, mover_f_futile_71, mover_f_rooted_71, mover_f_left_71, mover_f_waits_71, mover_f_chosen_71, mover_f_rule_71, mover_f_stays_71, mover_f_stayTrain_71, mover_f_onlyByCar_71, mover_ahead_f_there_71, mover_ahead_f_marked_71, mover_ahead_f_trains_71, mover_ahead_f_step_71, mover_ahead_a_size_71, mover_ahead_a_age_71, mover_ahead_a_train_71, mover_ahead_a_car_71, mover_ahead_a_place_71, mover_ahead_a_links_71, mover_ahead_a_roots_71, mover_ahead_a_cars_71, mover_ahead_a_from_71, mover_worth_f_top_71, mover_worth_a_facts_71, mover_worth_a_stack_71, mover_a_waiting_71, mover_a_aboard_71)
    else
      xlet (mX10_copy mover_ahead_a_size_71 mover_ahead_a_age_71 mover_ahead_a_train_71 mover_ahead_a_car_71 mover_ahead_a_place_71 mover_ahead_a_links_71 mover_ahead_a_roots_71 mover_ahead_a_cars_71 mover_ahead_a_from_71 now_f_there now_f_marked now_f_trains now_f_step now_a_size now_a_age now_a_train now_a_car now_a_place now_a_links now_a_roots now_a_cars now_a_from) (xu fun q6_1 => xu fun q6_2 => xu fun q6_3 => xu fun q6_4 => xu fun q6_5 => xu fun q6_6 => xu fun q6_7 => xu fun q6_8 => xu fun q6_9 => xu fun q6_10 => xu fun q6_11 => xu fun q6_12 => fun q6_13 =>
        xlet (mX11_put 40 v_about (nI i71) q6_5) (fun q7 =>
          xlet (mX2_count (nI i71) (0 : Int32) a_counts_71 q6_1 q6_3 q6_12) (fun q8 =>
            mX2_look_117 v_need plan_f_units plan_a_code plan_a_codeFrom plan_a_codeLength i71 (fun za_counts_71 zmover_f_fell_71 zmover_f_moved_71 zmover_f_cost_71 zmover_f_futile_71 zmover_f_rooted_71 zmover_f_left_71 zmover_f_waits_71 zmover_f_chosen_71 zmover_f_rule_71 zmover_f_stays_71 zmover_f_stayTrain_71 zmover_f_onlyByCar_71 zmover_ahead_f_there_71 zmover_ahead_f_marked_71 zmover_ahead_f_trains_71 zmover_ahead_f_step_71 zmover_ahead_a_size_71 zmover_ahead_a_age_71 zmover_ahead_a_train_71 zmover_ahead_a_car_71 zmover_ahead_a_place_71 zmover_ahead_a_links_71 zmover_ahead_a_roots_71 zmover_ahead_a_cars_71 zmover_ahead_a_from_71 zmover_worth_f_top_71 zmover_worth_a_facts_71 zmover_worth_a_stack_71 zmover_a_waiting_71 zmover_a_aboard_71 => mX2_look_71 v_about v_need v_change now_f_there now_f_marked now_f_trains now_f_step now_a_size now_a_age now_a_train now_a_car now_a_place now_a_links now_a_roots now_a_cars now_a_from plan_f_units plan_a_code plan_a_codeFrom plan_a_codeLength k71 (i71 + 1) za_counts_71 zmover_f_fell_71 zmover_f_moved_71 zmover_f_cost_71 zmover_f_futile_71 zmover_f_rooted_71 zmover_f_left_71 zmover_f_waits_71 zmover_f_chosen_71 zmover_f_rule_71 zmover_f_stays_71 zmover_f_stayTrain_71 zmover_f_onlyByCar_71 zmover_ahead_f_there_71 zmover_ahead_f_marked_71 zmover_ahead_f_trains_71 zmover_ahead_f_step_71 zmover_ahead_a_size_71 zmover_ahead_a_age_71 zmover_ahead_a_train_71 zmover_ahead_a_car_71 zmover_ahead_a_place_71 zmover_ahead_a_links_71 zmover_ahead_a_roots_71 zmover_ahead_a_cars_71 zmover_ahead_a_from_71 zmover_worth_f_top_71 zmover_worth_a_facts_71 zmover_worth_a_stack_71 zmover_a_waiting_71 zmover_a_aboard_71) 20 1 q8 mover_f_fell_71 mover_f_moved_71 mover_f_cost_71 mover_f_futile_71 mover_f_rooted_71 mover_f_left_71 mover_f_waits_71 mover_f_chosen_71 mover_f_rule_71 mover_f_stays_71 mover_f_stayTrain_71 mover_f_onlyByCar_71 q6_1 q6_2 q6_3 q6_4 q7 q6_6 q6_7 q6_8 q6_9 q6_10 q6_11 q6_12 q6_13 mover_worth_f_top_71 mover_worth_a_facts_71 mover_worth_a_stack_71 mover_a_waiting_71 mover_a_aboard_71)))
def mX2_look_28 (v_about : Int32) (v_need : Int32) (v_change : Int32) (a_counts : Nat → Int32) (now_f_there : Int64) (now_f_marked : Int64) (now_f_trains : Int32) (now_f_step : Int32) (now_a_size : Nat → Int32) (now_a_age : Nat → Int32) (now_a_train : Nat → Int32) (now_a_car : Nat → Int32) (now_a_place : Nat → Int32) (now_a_links : Nat → Int32) (now_a_roots : Nat → Int32) (now_a_cars : Nat → Int32) (now_a_from : Nat → Int64) (plan_f_units : Int32) (plan_a_code : Nat → Int32) (plan_a_codeFrom : Nat → Int32) (plan_a_codeLength : Nat → Int32) (mover_f_fell : Int32) (mover_f_moved : Int32) (mover_f_cost : Int32) (mover_f_futile : Bool) (mover_f_rooted : Int64) (mover_f_left : Int64) (mover_f_waits : Int32) (mover_f_chosen : Int32) (mover_f_rule : Int32) (mover_f_stays : Int32) (mover_f_stayTrain : Int32) (mover_f_onlyByCar : Bool) (mover_ahead_f_there : Int64) (mover_ahead_f_marked : Int64) (mover_ahead_f_trains : Int32) (mover_ahead_f_step : Int32) (mover_ahead_a_size : Nat → Int32) (mover_ahead_a_age : Nat → Int32) (mover_ahead_a_train : Nat → Int32) (mover_ahead_a_car : Nat → Int32) (mover_ahead_a_place : Nat → Int32) (mover_ahead_a_links : Nat → Int32) (mover_ahead_a_roots : Nat → Int32) (mover_ahead_a_cars : Nat → Int32) (mover_ahead_a_from : Nat → Int64) (mover_worth_f_top : Int32) (mover_worth_a_facts : Nat → Int32) (mover_worth_a_stack : Nat → Int32) (mover_a_waiting : Nat → Int32) (mover_a_aboard : Nat → Int64)   : Int32 × Int32 × Int32 × Int32 × (Nat → Int32) × Int32 × Int32 × Int32 × Bool × Int64 × Int64 × Int32 × Int32 × Int32 × Int32 × Int32 × Bool × Int64 × Int64 × Int32 × Int32 × (Nat → Int32) × (Nat → Int32) × (Nat → Int32) × (Nat → Int32) × (Nat → Int32) × (Nat → Int32) × (Nat → Int32) × (Nat → Int32) × (Nat → Int64) × Int32 × (Nat → Int32) × (Nat → Int32) × (Nat → Int32) × (Nat → Int64) :=
  xlet (mJ7_fill_53178 6300 ((-1) : Int32) a_counts) (fun q4 =>
    mX2_look_71 v_about v_need v_change now_f_there now_f_marked now_f_trains now_f_step now_a_size now_a_age now_a_train now_a_car now_a_place now_a_links now_a_roots now_a_cars now_a_from plan_f_units plan_a_code plan_a_codeFrom plan_a_codeLength 99 1 q4 mover_f_fell mover_f_moved mover_f_cost mover_f_futile mover_f_rooted mover_f_left mover_f_waits mover_f_chosen mover_f_rule mover_f_stays mover_f_stayTrain mover_f_onlyByCar mover_ahead_f_there mover_ahead_f_marked mover_ahead_f_trains mover_ahead_f_step mover_ahead_a_size mover_ahead_a_age mover_ahead_a_train mover_ahead_a_car mover_ahead_a_place mover_ahead_a_links mover_ahead_a_roots mover_ahead_a_cars mover_ahead_a_from mover_worth_f_top mover_worth_a_facts mover_worth_a_stack mover_a_waiting mover_a_aboard)
def mX2_look (v_about : Int32) (v_need : Int32) (v_change : Int32) (f_units : Int32) (f_thing : Int32) (f_deep : Int32) (f_known : Int32) (a_counts : Nat → Int32) (now_f_there : Int64) (now_f_marked : Int64) (now_f_trains : Int32) (now_f_step : Int32) (now_a_size : Nat → Int32) (now_a_age : Nat → Int32) (now_a_train : Nat → Int32) (now_a_car : Nat → Int32) (now_a_place : Nat → Int32) (now_a_links : Nat → Int32) (now_a_roots : Nat → Int32) (now_a_cars : Nat → Int32) (now_a_from : Nat → Int64) (plan_f_units : Int32) (plan_a_code : Nat → Int32) (plan_a_codeFrom : Nat → Int32) (plan_a_codeLength : Nat → Int32) (mover_f_fell : Int32) (mover_f_moved : Int32) (mover_f_cost : Int32) (mover_f_futile : Bool) (mover_f_rooted : Int64) (mover_f_left : Int64) (mover_f_waits : Int32) (mover_f_chosen : Int32) (mover_f_rule : Int32) (mover_f_stays : Int32) (mover_f_stayTrain : Int32) (mover_f_onlyByCar : Bool) (mover_ahead_f_there : Int64) (mover_ahead_f_marked : Int64) (mover_ahead_f_trains : Int32) (mover_ahead_f_step : Int32) (mover_ahead_a_size : Nat → Int32) (mover_ahead_a_age : Nat → Int32) (mover_ahead_a_train : Nat → Int32) (mover_ahead_a_car : Nat → Int32) (mover_ahead_a_place : Nat → Int32) (mover_ahead_a_links : Nat → Int32) (mover_ahead_a_roots : Nat → Int32) (mover_ahead_a_cars : Nat → Int32) (mover_ahead_a_from : Nat → Int64) (mover_worth_f_top : Int32) (mover_worth_a_facts : Nat → Int32) (mover_worth_a_stack : Nat → Int32) (mover_a_waiting : Nat → Int32) (mover_a_aboard : Nat → Int64) : Int32 × Int32 × Int32 × Int32 × (Nat → Int32) × Int32 × Int32 × Int32 × Bool × Int64 × Int64 × Int32 × Int32 × Int32 × Int32 × Int32 × Bool × Int64 × Int64 × Int32 × Int32 × (Nat → Int32) × (Nat → Int32) × (Nat → Int32) × (Nat → Int32) × (Nat → Int32) × (Nat → Int32) × (Nat → Int32) × (Nat → Int32) × (Nat → Int64) × Int32 × (Nat → Int32) × (Nat → Int32) × (Nat → Int32) × (Nat → Int64) :=
  if f_known = v_change then
    if f_thing = v_about then
      if f_deep < v_need then
        mX2_look_28 v_about v_need v_change a_counts now_f_there now_f_marked now_f_trains now_f_step now_a_size now_a_age now_a_train now_a_car now_a_place now_a_links now_a_roots now_a_cars now_a_from plan_f_units plan_a_code plan_a_codeFrom plan_a_codeLength mover_f_fell mover_f_moved mover_f_cost mover_f_futile mover_f_rooted mover_f_left mover_f_waits mover_f_chosen mover_f_rule mover_f_stays mover_f_stayTrain mover_f_onlyByCar mover_ahead_f_there mover_ahead_f_marked mover_ahead_f_trains mover_ahead_f_step mover_ahead_a_size mover_ahead_a_age mover_ahead_a_train mover_ahead_a_car mover_ahead_a_place mover_ahead_a_links mover_ahead_a_roots mover_ahead_a_cars mover_ahead_a_from mover_worth_f_top mover_worth_a_facts mover_worth_a_stack mover_a_waiting mover_a_aboard
      else
        (f_units, f_thing, f_deep, f_known, a_counts, mover_f_fell, mover_f_moved, mover_f_cost, mover_f_futile, mover_f_rooted, mover_f_left, mover_f_waits, mover_f_chosen, mover_f_rule, mover_f_stays, mover_f_stayTrain, mover_f_onlyByCar, mover_ahead_f_there, mover_ahead_f_marked, mover_ahead_f_trains, mover_ahead_f_step, mover_ahead_a_size, mover_ahead_a_age, mover_ahead_a_train, mover_ahead_a_car, mover_ahead_a_place, mover_ahead_a_links, mover_ahead_a_roots, mover_ahead_a_cars, mover_ahead_a_from, mover_worth_f_top, mover_worth_a_facts, mover_worth_a_stack, mover_a_waiting, mover_a_aboard)
    else
      mX2_look_28 v_about v_need v_change a_counts now_f_there now_f_marked now_f_trains now_f_step now_a_size now_a_age now_a_train now_a_car now_a_place now_a_links now_a_roots now_a_cars now_a_from plan_f_units plan_a_code plan_a_codeFrom plan_a_codeLength mover_f_fell mover_f_moved mover_f_cost mover_f_futile mover_f_rooted mover_f_left mover_f_waits mover_f_chosen mover_f_rule mover_f_stays mover_f_stayTrain mover_f_onlyByCar mover_ahead_f_there mover_ahead_f_marked mover_ahead_f_trains mover_ahead_f_step mover_ahead_a_size mover_ahead_a_age mover_ahead_a_train mover_ahead_a_car mover_ahead_a_place mover_ahead_a_links mover_ahead_a_roots mover_ahead_a_cars mover_ahead_a_from mover_worth_f_top mover_worth_a_facts mover_worth_a_stack mover_a_waiting mover_a_aboard
  else
    mX2_look_28 v_about v_need v_change a_counts now_f_there now_f_marked now_f_trains now_f_step now_a_size now_a_age now_a_train now_a_car now_a_place now_a_links now_a_roots now_a_cars now_a_from plan_f_units plan_a_code plan_a_codeFrom plan_a_codeLength mover_f_fell mover_f_moved mover_f_cost mover_f_futile mover_f_rooted mover_f_left mover_f_waits mover_f_chosen mover_f_rule mover_f_stays mover_f_stayTrain mover_f_onlyByCar mover_ahead_f_there mover_ahead_f_marked mover_ahead_f_trains mover_ahead_f_step mover_ahead_a_size mover_ahead_a_age mover_ahead_a_train mover_ahead_a_car mover_ahead_a_place mover_ahead_a_links mover_ahead_a_roots mover_ahead_a_cars mover_ahead_a_from mover_worth_f_top mover_worth_a_facts mover_worth_a_stack mover_a_waiting mover_a_aboard
def mX2_counted (v_s : Int32) (v_n : Int32) (v_kind : Int32) (a_counts : Nat → Int32) : Int32 :=
  mX11_at 6300 (((v_s * 63) + (v_n * 3)) + v_kind) a_counts
def mX2_fits_4 (v_s : Int32) (f_met : Int32) (a_rows : Nat → Int32) (a_counts : Nat → Int32)  : Nat → Nat → Bool → Bool
  | 0, i4, x2_4 => if (nI i4) < f_met then
      x2_4
    else
      x2_4
  | k4 + 1, i4, x2_4 =>
    if (nI i4) < f_met then
      if x2_4 = true then
        if (mX2_counted v_s (mX11_at 48 ((nI i4) * 3) a_rows) (mX11_at 48 (((nI i4) * 3) + 1) a_rows) a_counts) = (mX11_at 48 (((nI i4) * 3) + 2) a_rows) then
          mX2_fits_4 v_s f_met a_rows a_counts k4 (i4 + 1) true
        else
          mX2_fits_4 v_s f_met a_rows a_counts k4 (i4 + 1) false
      else
        x2_4
    else
      x2_4
def mX2_fits (v_s : Int32) (f_met : Int32) (a_rows : Nat → Int32) (a_counts : Nat → Int32) : Bool :=
  mX2_fits_4 v_s f_met a_rows a_counts 16 0 true
def mX2_left_4 (f_met : Int32) (f_units : Int32) (a_rows : Nat → Int32) (a_counts : Nat → Int32)  : Nat → Nat → Int32 → Int32
  | 0, i4, x1_4 => if f_units < (nI i4) then
      x1_4
    else
      x1_4
  | k4 + 1, i4, x1_4 =>
    if f_units < (nI i4) then
      x1_4
    else
      if (mX2_fits (nI i4) f_met a_rows a_counts) = true then
        mX2_left_4 f_met f_units a_rows a_counts k4 (i4 + 1) (x1_4 + 1)
      else
        mX2_left_4 f_met f_units a_rows a_counts k4 (i4 + 1) (x1_4 + 0)
def mX2_left (f_met : Int32) (f_units : Int32) (a_rows : Nat → Int32) (a_counts : Nat → Int32) : Int32 :=
  mX2_left_4 f_met f_units a_rows a_counts 99 1 (0 : Int32)
def mX2_nthLeft_4 (v_k : Int32) (f_met : Int32) (f_units : Int32) (a_rows : Nat → Int32) (a_counts : Nat → Int32)  : Nat → Nat → Int32 → Int32
  | 0, i4, x2_4 => if f_units < (nI i4) then
      ((-1) : Int32)
    else
      ((-1) : Int32)
  | k4 + 1, i4, x2_4 =>
    if f_units < (nI i4) then
      ((-1) : Int32)
    else
      if (mX2_fits (nI i4) f_met a_rows a_counts) = true then
        if x2_4 = v_k then
          nI i4
        else
          mX2_nthLeft_4 v_k f_met f_units a_rows a_counts k4 (i4 + 1) (x2_4 + 1)
      else
        mX2_nthLeft_4 v_k f_met f_units a_rows a_counts k4 (i4 + 1) x2_4
def mX2_nthLeft (v_k : Int32) (f_met : Int32) (f_units : Int32) (a_rows : Nat → Int32) (a_counts : Nat → Int32) : Int32 :=
  mX2_nthLeft_4 v_k f_met f_units a_rows a_counts 99 1 (0 : Int32)
def mX2_mostAlike_13 (v_n : Int32) (v_kind : Int32) (f_met : Int32) (f_units : Int32) (a_rows : Nat → Int32) (a_counts : Nat → Int32)  : Nat → Nat → Int32 → (Nat → Int32) → Int32 × (Nat → Int32)
  | 0, i13, x3_13, a_tally_13 => if f_units < (nI i13) then
      (x3_13, a_tally_13)
    else
      (x3_13, a_tally_13)
  | k13 + 1, i13, x3_13, a_tally_13 =>
    if f_units < (nI i13) then
      (x3_13, a_tally_13)
    else
      if (mX2_fits (nI i13) f_met a_rows a_counts) = true then
        xlet (mX11_put 42 (mX2_counted (nI i13) v_n v_kind a_counts) ((mX11_at 42 (mX2_counted (nI i13) v_n v_kind a_counts) a_tally_13) + 1) a_tally_13) (fun q4 =>
          if x3_13 < ((mX11_at 42 (mX2_counted (nI i13) v_n v_kind a_counts) a_tally_13) + 1) then
            mX2_mostAlike_13 v_n v_kind f_met f_units a_rows a_counts k13 (i13 + 1) ((mX11_at 42 (mX2_counted (nI i13) v_n v_kind a_counts) a_tally_13) + 1) q4
          else
            mX2_mostAlike_13 v_n v_kind f_met f_units a_rows a_counts k13 (i13 + 1) x3_13 q4)
      else
        mX2_mostAlike_13 v_n v_kind f_met f_units a_rows a_counts k13 (i13 + 1) x3_13 a_tally_13
def mX2_mostAlike (v_n : Int32) (v_kind : Int32) (f_met : Int32) (f_units : Int32) (a_rows : Nat → Int32) (a_counts : Nat → Int32) (a_tally : Nat → Int32) : Int32 × (Nat → Int32) :=
  xlet (mJ7_fill_53178 42 (0 : Int32) a_tally) (fun q1 =>
    mX2_mostAlike_13 v_n v_kind f_met f_units a_rows a_counts 99 1 (0 : Int32) q1)
def mX2_findTelling_53 (a_telling_18 : Nat → Int32) (i18 : Nat) (i4 : Nat) (K18 : Bool → (Nat → Int32) → (Nat → Int32) → Bool × (Nat → Int32) × (Nat → Int32)) (x5_53 : Int32) (a_tally_53 : Nat → Int32) : Bool × (Nat → Int32) × (Nat → Int32) :=
  K18 true (upd (upd (upd a_telling_18 (0 : Int32).toNatClampNeg (nI i4)) (1 : Int32).toNatClampNeg (nI i18)) (2 : Int32).toNatClampNeg x5_53) a_tally_53
def mX2_findTelling_18 (f_met : Int32) (f_units : Int32) (a_rows : Nat → Int32) (a_counts : Nat → Int32) (i4 : Nat) (K4 : Bool → (Nat → Int32) → (Nat → Int32) → Bool × (Nat → Int32) × (Nat → Int32)) : Nat → Nat → Bool → (Nat → Int32) → (Nat → Int32) → Bool × (Nat → Int32) × (Nat → Int32)
  | 0, i18, x2_18, a_telling_18, a_tally_18 => K4 x2_18 a_telling_18 a_tally_18
  | k18 + 1, i18, x2_18, a_telling_18, a_tally_18 =>
    xlet (mX2_mostAlike (nI i4) (nI i18) f_met f_units a_rows a_counts a_tally_18) (xu fun q3_1 => fun q3_2 =>
      if 0 < q3_1 then
        if x2_18 = true then
          if q3_1 < (a_telling_18 (2 : Int32).toNatClampNeg) then
            mX2_findTelling_53 a_telling_18 i18 i4 (fun zx2_18 za_telling_18 za_tally_18 => mX2_findTelling_18 f_met f_units a_rows a_counts i4 K4 k18 (i18 + 1) zx2_18 za_telling_18 za_tally_18) q3_1 q3_2
          else
            mX2_findTelling_18 f_met f_units a_rows a_counts i4 K4 k18 (i18 + 1) x2_18 a_telling_18 q3_2
        else
          mX2_findTelling_53 a_telling_18 i18 i4 (fun zx2_18 za_telling_18 za_tally_18 => mX2_findTelling_18 f_met f_units a_rows a_counts i4 K4 k18 (i18 + 1) zx2_18 za_telling_18 za_tally_18) q3_1 q3_2
      else
        mX2_findTelling_18 f_met f_units a_rows a_counts i4 K4 k18 (i18 + 1) x2_18 a_telling_18 q3_2)
def mX2_findTelling_4 (v_comes : Int32) (f_met : Int32) (f_units : Int32) (a_rows : Nat → Int32) (a_counts : Nat → Int32)  : Nat → Nat → Bool → (Nat → Int32) → (Nat → Int32) → Bool × (Nat → Int32) × (Nat → Int32)
  | 0, i4, x2_4, a_telling_4, a_tally_4 => if v_comes < (nI i4) then
      (x2_4, a_telling_4, a_tally_4)
    else
      (x2_4, a_telling_4, a_tally_4)
  | k4 + 1, i4, x2_4, a_telling_4, a_tally_4 =>
    if v_comes < (nI i4) then
      (x2_4, a_telling_4, a_tally_4)
    else
      mX2_findTelling_18 f_met f_units a_rows a_counts i4 (fun zx2_4 za_telling_4 za_tally_4 => mX2_findTelling_4 v_comes f_met f_units a_rows a_counts k4 (i4 + 1) zx2_4 za_telling_4 za_tally_4) 3 0 x2_4 a_telling_4 a_tally_4
def mX2_findTelling (v_comes : Int32) (f_met : Int32) (f_units : Int32) (a_telling : Nat → Int32) (a_rows : Nat → Int32) (a_counts : Nat → Int32) (a_tally : Nat → Int32) : Bool × (Nat → Int32) × (Nat → Int32) :=
  mX2_findTelling_4 v_comes f_met f_units a_rows a_counts 20 1 false a_telling a_tally
def mX4_count (v_n : Int32) (v_cost : Int32) (v_futile : Int32) (a_counts : Nat → Int32) (y_f_there : Int64) (y_f_trains : Int32) (y_a_cars : Nat → Int32) : (Nat → Int32) :=
  xlet (mX11_put 305 (v_n * 5) y_f_trains a_counts) (fun q1 =>
    xlet (mX11_put 305 ((v_n * 5) + 1) (mX10_allCars y_f_trains y_a_cars) q1) (fun q2 =>
      xlet (mX11_put 305 ((v_n * 5) + 2) (mJ13_bitCount_95d88 y_f_there) q2) (fun q3 =>
        xlet (mX11_put 305 ((v_n * 5) + 3) v_cost q3) (fun q4 =>
          xlet (mX11_put 305 ((v_n * 5) + 4) v_futile q4) (fun q5 =>
            q5)))))
def mX4_noteFallen_3 (v_gone : Int64) (v_n : Int32)  : Nat → Nat → (Nat → Int32) → (Nat → Int32)
  | 0, i3, a_fallAt_3 => a_fallAt_3
  | k3 + 1, i3, a_fallAt_3 =>
    if (mX11_in v_gone (nI i3)) = true then
      if (a_fallAt_3 (nI i3).toNatClampNeg) = (-1) then
        mX4_noteFallen_3 v_gone v_n k3 (i3 + 1) (upd a_fallAt_3 (nI i3).toNatClampNeg v_n)
      else
        mX4_noteFallen_3 v_gone v_n k3 (i3 + 1) a_fallAt_3
    else
      mX4_noteFallen_3 v_gone v_n k3 (i3 + 1) a_fallAt_3
def mX4_noteFallen (v_gone : Int64) (v_n : Int32) (a_fallAt : Nat → Int32) : (Nat → Int32) :=
  mX4_noteFallen_3 v_gone v_n 40 0 a_fallAt
def mX4_look_140 (now_f_there : Int64) (a_counts_92 : Nat → Int32) (a_fallAt_92 : Nat → Int32) (f_cleanAt_92 : Int32) (i92 : Nat) (mover_ahead_a_roots_92 : Nat → Int32) (x6_92 : Int64) (x9_92 : Int32) (K92 : Int64 → Int32 → Int32 → Int32 → Int32 → (Nat → Int32) → (Nat → Int32) → Int32 → Int32 → Int32 → Bool → Int64 → Int64 → Int32 → Int32 → Int32 → Int32 → Int32 → Bool → Int64 → Int64 → Int32 → Int32 → (Nat → Int32) → (Nat → Int32) → (Nat → Int32) → (Nat → Int32) → (Nat → Int32) → (Nat → Int32) → (Nat → Int32) → (Nat → Int32) → (Nat → Int64) → Int32 → (Nat → Int32) → (Nat → Int32) → (Nat → Int32) → (Nat → Int64) → Int32 × Int32 × Int32 × (Nat → Int32) × (Nat → Int32) × Int32 × Int32 × Int32 × Bool × Int64 × Int64 × Int32 × Int32 × Int32 × Int32 × Int32 × Bool × Int64 × Int64 × Int32 × Int32 × (Nat → Int32) × (Nat → Int32) × (Nat → Int32) × (Nat → Int32) × (Nat → Int32) × (Nat → Int32) × (Nat → Int32) × (Nat → Int32) × (Nat → Int64) × Int32 × (Nat → Int32) × (Nat → Int32) × (Nat → Int32) × (Nat → Int64)) (x8_140 : Int32) (s0_140 : Int32) (mover_f_fell_140 : Int32) (mover_f_moved_140 : Int32) (mover_f_cost_140 : Int32) (mover_f_futile_140 : Bool) (mover_f_rooted_140 : Int64) (mover_f_left_140 : Int64) (mover_f_waits_140 : Int32) (mover_f_chosen_140 : Int32) (mover_f_rule_140 : Int32) (mover_f_stays_140 : Int32) (mover_f_stayTrain_140 : Int32) (mover_f_onlyByCar_140 : Bool) (mover_ahead_f_there_140 : Int64) (mover_ahead_f_marked_140 : Int64) (mover_ahead_f_trains_140 : Int32) (mover_ahead_f_step_140 : Int32) (mover_ahead_a_size_140 : Nat → Int32) (mover_ahead_a_age_140 : Nat → Int32) (mover_ahead_a_train_140 : Nat → Int32) (mover_ahead_a_car_140 : Nat → Int32) (mover_ahead_a_place_140 : Nat → Int32) (mover_ahead_a_links_140 : Nat → Int32) (mover_ahead_a_cars_140 : Nat → Int32) (mover_ahead_a_from_140 : Nat → Int64) (mover_worth_f_top_140 : Int32) (mover_worth_a_facts_140 : Nat → Int32) (mover_worth_a_stack_140 : Nat → Int32) (mover_a_waiting_140 : Nat → Int32) (mover_a_aboard_140 : Nat → Int64) : Int32 × Int32 × Int32 × (Nat → Int32) × (Nat → Int32) × Int32 × Int32 × Int32 × Bool × Int64 × Int64 × Int32 × Int32 × Int32 × Int32 × Int32 × Bool × Int64 × Int64 × Int32 × Int32 × (Nat → Int32) × (Nat → Int32) × (Nat → Int32) × (Nat → Int32) × (Nat → Int32) × (Nat → Int32) × (Nat → Int32) × (Nat → Int32) × (Nat → Int64) × Int32 × (Nat → Int32) × (Nat → Int32) × (Nat → Int32) × (Nat → Int64) :=
  xlet (mX4_count (nI i92) x8_140 (x9_92 + s0_140) a_counts_92 mover_ahead_f_there_140 mover_ahead_f_trains_140 mover_ahead_a_cars_140) (fun q9 =>
    xlet (mX4_noteFallen (now_f_there &&& (mover_ahead_f_there_140 ^^^ (-1))) (nI i92) a_fallAt_92) (fun q10 =>
      if f_cleanAt_92 = (-1) then
        if (x6_92 &&& mover_ahead_f_there_140) = (0 : Int64) then
          K92 x6_92 x8_140 (x9_92 + s0_140) (nI i92) (nI i92) q9 q10 mover_f_fell_140 mover_f_moved_140 mover_f_cost_140 mover_f_futile_140 mover_f_rooted_140 mover_f_left_140 mover_f_waits_140 mover_f_chosen_140 mover_f_rule_140 mover_f_stays_140 mover_f_stayTrain_140 mover_f_onlyByCar_140 mover_ahead_f_there_140 mover_ahead_f_marked_140 mover_ahead_f_trains_140 mover_ahead_f_step_140 mover_ahead_a_size_140 mover_ahead_a_age_140 mover_ahead_a_train_140 mover_ahead_a_car_140 mover_ahead_a_place_140 mover_ahead_a_links_140 mover_ahead_a_roots_92 mover_ahead_a_cars_140 mover_ahead_a_from_140 mover_worth_f_top_140 mover_worth_a_facts_140 mover_worth_a_stack_140 mover_a_waiting_140 mover_a_aboard_140
        else
          K92 x6_92 x8_140 (x9_92 + s0_140) f_cleanAt_92 (nI i92) q9 q10 mover_f_fell_140 mover_f_moved_140 mover_f_cost_140 mover_f_futile_140 mover_f_rooted_140 mover_f_left_140 mover_f_waits_140 mover_f_chosen_140 mover_f_rule_140 mover_f_stays_140 mover_f_stayTrain_140 mover_f_onlyByCar_140 mover_ahead_f_there_140 mover_ahead_f_marked_140 mover_ahead_f_trains_140 mover_ahead_f_step_140 mover_ahead_a_size_140 mover_ahead_a_age_140 mover_ahead_a_train_140 mover_ahead_a_car_140 mover_ahead_a_place_140 mover_ahead_a_links_140 mover_ahead_a_roots_92 mover_ahead_a_cars_140 mover_ahead_a_from_140 mover_worth_f_top_140 mover_worth_a_facts_140 mover_worth_a_stack_140 mover_a_waiting_140 mover_a_aboard_140
      else
        K92 x6_92 x8_140 (x9_92 + s0_140) f_cleanAt_92 (nI i92) q9 q10 mover_f_fell_140 mover_f_moved_140 mover_f_cost_140 mover_f_futile_140 mover_f_rooted_140 mover_f_left_140 mover_f_waits_140 mover_f_chosen_140 mover_f_rule_140 mover_f_stays_140 mover_f_stayTrain_140 mover_f_onlyByCar_140 mover_ahead_f_there_140 mover_ahead_f_marked_140 mover_ahead_f_trains_140 mover_ahead_f_step_140 mover_ahead_a_size_140 mover_ahead_a_age_140 mover_ahead_a_train_140 mover_ahead_a_car_140 mover_ahead_a_place_140 mover_ahead_a_links_140 mover_ahead_a_roots_92 mover_ahead_a_cars_140 mover_ahead_a_from_140 mover_worth_f_top_140 mover_worth_a_facts_140 mover_worth_a_stack_140 mover_a_waiting_140 mover_a_aboard_140))
def mX4_look_92 (v_change : Int32) (now_f_there : Int64) (plan_f_units : Int32) (plan_a_code : Nat → Int32) (plan_a_codeFrom : Nat → Int32) (plan_a_codeLength : Nat → Int32)  : Nat → Nat → Int64 → Int32 → Int32 → Int32 → Int32 → (Nat → Int32) → (Nat → Int32) → Int32 → Int32 → Int32 → Bool → Int64 → Int64 → Int32 → Int32 → Int32 → Int32 → Int32 → Bool → Int64 → Int64 → Int32 → Int32 → (Nat → Int32) → (Nat → Int32) → (Nat → Int32) → (Nat → Int32) → (Nat → Int32) → (Nat → Int32) → (Nat → Int32) → (Nat → Int32) → (Nat → Int64) → Int32 → (Nat → Int32) → (Nat → Int32) → (Nat → Int32) → (Nat → Int64) → Int32 × Int32 × Int32 × (Nat → Int32) × (Nat → Int32) × Int32 × Int32 × Int32 × Bool × Int64 × Int64 × Int32 × Int32 × Int32 × Int32 × Int32 × Bool × Int64 × Int64 × Int32 × Int32 × (Nat → Int32) × (Nat → Int32) × (Nat → Int32) × (Nat → Int32) × (Nat → Int32) × (Nat → Int32) × (Nat → Int32) × (Nat → Int32) × (Nat → Int64) × Int32 × (Nat → Int32) × (Nat → Int32) × (Nat → Int32) × (Nat → Int64)
  | 0, i92, x6_92, x8_92, x9_92, f_cleanAt_92, f_reach_92, a_counts_92, a_fallAt_92, mover_f_fell_92, mover_f_moved_92, mover_f_cost_92, mover_f_futile_92, mover_f_rooted_92, mover_f_left_92, mover_f_waits_92, mover_f_chosen_92, mover_f_rule_92, mover_f_stays_92, mover_f_stayTrain_92, mover_f_onlyByCar_92, mover_ahead_f_there_92, mover_ahead_f_marked_92, mover_ahead_f_trains_92, mover_ahead_f_step_92, mover_ahead_a_size_92, mover_ahead_a_age_92, mover_ahead_a_train_92, mover_ahead_a_car_92, mover_ahead_a_place_92, mover_ahead_a_links_92, mover_ahead_a_roots_92, mover_ahead_a_cars_92, mover_ahead_a_from_92, mover_worth_f_top_92, mover_worth_a_facts_92, mover_worth_a_stack_92, mover_a_waiting_92, mover_a_aboard_92 => (f_cleanAt_92, f_reach_92, v_change, a_counts_92, a_fallAt_92, mover_f_fell_92, mover_f_moved_92, mover_f_cost_92, mover_f_futile_92, mover_f_rooted_92, mover_f_left_92, mover_f_waits_92, mover_f_chosen_92, mover_f_rule_92, mover_f_stays_92, mover_f_stayTrain_92, mover_f_onlyByCar_92, mover_ahead_f_there_92, mover_ahead_f_marked_92, mover_ahead_f_trains_92, mover_ahead_f_step_92, mover_ahead_a_size_92, mover_ahead_a_age_92, mover_ahead_a_train_92, mover_ahead_a_car_92, mover_ahead_a_place_92, mover_ahead_a_links_92, mover_ahead_a_roots_92, mover_ahead_a_cars_92, mover_ahead_a_from_92, mover_worth_f_top_92, mover_worth_a_facts_92, mover_worth_a_stack_92, mover_a_waiting_92, mover_a_aboard_92)
  | k92 + 1, i92, x6_92, x8_92, x9_92, f_cleanAt_92, f_reach_92, a_counts_92, a_fallAt_92, mover_f_fell_92, mover_f_moved_92, mover_f_cost_92, mover_f_futile_92, mover_f_rooted_92, mover_f_left_92, mover_f_waits_92, mover_f_chosen_92, mover_f_rule_92, mover_f_stays_92, mover_f_stayTrain_92, mover_f_onlyByCar_92, mover_ahead_f_there_92, mover_ahead_f_marked_92, mover_ahead_f_trains_92, mover_ahead_f_step_92, mover_ahead_a_size_92, mover_ahead_a_age_92, mover_ahead_a_train_92, mover_ahead_a_car_92, mover_ahead_a_place_92, mover_ahead_a_links_92, mover_ahead_a_roots_92, mover_ahead_a_cars_92, mover_ahead_a_from_92, mover_worth_f_top_92, mover_worth_a_facts_92, mover_worth_a_stack_92, mover_a_waiting_92, mover_a_aboard_92 =>
    if mover_ahead_f_step_92 < 999 then
      xlet (mX3_step mover_f_rooted_92 mover_f_left_92 mover_f_waits_92 mover_f_chosen_92 mover_f_rule_92 mover_f_stays_92 mover_f_stayTrain_92 mover_f_onlyByCar_92 mover_worth_f_top_92 mover_worth_a_facts_92 mover_worth_a_stack_92 mover_a_waiting_92 mover_a_aboard_92 mover_ahead_f_there_92 mover_ahead_f_marked_92 mover_ahead_f_trains_92 mover_ahead_f_step_92 mover_ahead_a_size_92 mover_ahead_a_age_92 mover_ahead_a_train_92 mover_ahead_a_car_92 mover_ahead_a_place_92 mover_ahead_a_links_92 mover_ahead_a_roots_92 mover_ahead_a_cars_92 mover_ahead_a_from_92 plan_f_units plan_a_code plan_a_codeFrom plan_a_codeLength) (xu fun q7_1 => xu fun q7_2 => xu fun q7_3 => xu fun q7_4 => xu fun q7_5 => xu fun q7_6 => xu fun q7_7 => xu fun q7_8 => xu fun q7_9 => xu fun q7_10 => xu fun q7_11 => xu fun q7_12 => xu fun q7_13 => xu fun q7_14 => xu fun q7_15 => xu fun q7_16 => xu fun q7_17 => xu fun q7_18 => xu fun q7_19 => xu fun q7_20 => xu fun q7_21 => xu fun q7_22 => xu fun q7_23 => xu fun q7_24 => xu fun q7_25 => xu fun q7_26 => xu fun q7_27 => xu fun q7_28 => fun q7_29 =>
        if q7_4 = true then
          mX4_look_140 now_f_there a_counts_92 a_fallAt_92 f_cleanAt_92 i92 mover_ahead_a_roots_92 x6_92 x9_92 (fun zx6_92 zx8_92 zx9_92 zf_cleanAt_92 zf_reach_92 za_counts_92 za_fallAt_92 zmover_f_fell_92 zmover_f_moved_92 zmover_f_cost_92 zmover_f_futile_92 zmover_f_rooted_92 zmover_f_left_92 zmover_f_waits_92 zmover_f_chosen_92 zmover_f_rule_92 zmover_f_stays_92 zmover_f_stayTrain_92 zmover_f_onlyByCar_92 zmover_ahead_f_there_92 zmover_ahead_f_marked_92 zmover_ahead_f_trains_92 zmover_ahead_f_step_92 zmover_ahead_a_size_92 zmover_ahead_a_age_92 zmover_ahead_a_train_92 zmover_ahead_a_car_92 zmover_ahead_a_place_92 zmover_ahead_a_links_92 zmover_ahead_a_roots_92 zmover_ahead_a_cars_92 zmover_ahead_a_from_92 zmover_worth_f_top_92 zmover_worth_a_facts_92 zmover_worth_a_stack_92 zmover_a_waiting_92 zmover_a_aboard_92 => mX4_look_92 v_change now_f_there plan_f_units plan_a_code plan_a_codeFrom plan_a_codeLength k92 (i92 + 1) zx6_92 zx8_92 zx9_92 zf_cleanAt_92 zf_reach_92 za_counts_92 za_fallAt_92 zmover_f_fell_92 zmover_f_moved_92 zmover_f_cost_92 zmover_f_futile_92 zmover_f_rooted_92 zmover_f_left_92 zmover_f_waits_92 zmover_f_chosen_92 zmover_f_rule_92 zmover_f_stays_92 zmover_f_stayTrain_92 zmover_f_onlyByCar_92 zmover_ahead_f_there_92 zmover_ahead_f_marked_92 zmover_ahead_f_trains_92 zmover_ahead_f_step_92 zmover_ahead_a_size_92 zmover_ahead_a_age_92 zmover_ahead_a_train_92 zmover_ahead_a_car_92 zmover_ahead_a_place_92 zmover_ahead_a_links_92 zmover_ahead_a_roots_92 zmover_ahead_a_cars_92 zmover_ahead_a_from_92 zmover_worth_f_top_92 zmover_worth_a_facts_92 zmover_worth_a_stack_92 zmover_a_waiting_92 zmover_a_aboard_92) (x8_92 + q7_3) (1 : Int32) q7_1 q7_2 q7_3 q7_4 q7_5 q7_6 q7_7 q7_8 q7_9 q7_10 q7_11 q7_12 q7_18 q7_19 q7_20 q7_21 q7_22 q7_23 q7_24 q7_25 q7_26 q7_27 q7_28 q7_29 q7_13 q7_14 q7_15 q7_16 q7_17
        else
          mX4_look_140 now_f_there a_counts_92 a_fallAt_92 f_cleanAt_92 i92 mover_ahead_a_roots_92 x6_92 x9_92 (fun zx6_92 zx8_92 zx9_92 zf_cleanAt_92 zf_reach_92 za_counts_92 za_fallAt_92 zmover_f_fell_92 zmover_f_moved_92 zmover_f_cost_92 zmover_f_futile_92 zmover_f_rooted_92 zmover_f_left_92 zmover_f_waits_92 zmover_f_chosen_92 zmover_f_rule_92 zmover_f_stays_92 zmover_f_stayTrain_92 zmover_f_onlyByCar_92 zmover_ahead_f_there_92 zmover_ahead_f_marked_92 zmover_ahead_f_trains_92 zmover_ahead_f_step_92 zmover_ahead_a_size_92 zmover_ahead_a_age_92 zmover_ahead_a_train_92 zmover_ahead_a_car_92 zmover_ahead_a_place_92 zmover_ahead_a_links_92 zmover_ahead_a_roots_92 zmover_ahead_a_cars_92 zmover_ahead_a_from_92 zmover_worth_f_top_92 zmover_worth_a_facts_92 zmover_worth_a_stack_92 zmover_a_waiting_92 zmover_a_aboard_92 => mX4_look_92 v_change now_f_there plan_f_units plan_a_code plan_a_codeFrom plan_a_codeLength k92 (i92 + 1) zx6_92 zx8_92 zx9_92 zf_cleanAt_92 zf_reach_92 za_counts_92 za_fallAt_92 zmover_f_fell_92 zmover_f_moved_92 zmover_f_cost_92 zmover_f_futile_92 zmover_f_rooted_92 zmover_f_left_92 zmover_f_waits_92 zmover_f_chosen_92 zmover_f_rule_92 zmover_f_stays_92 zmover_f_stayTrain_92 zmover_f_onlyByCar_92 zmover_ahead_f_there_92 zmover_ahead_f_marked_92 zmover_ahead_f_trains_92 zmover_ahead_f_step_92 zmover_ahead_a_size_92 zmover_ahead_a_age_92 zmover_ahead_a_train_92 zmover_ahead_a_car_92 zmover_ahead_a_place_92 zmover_ahead_a_links_92 zmover_ahead_a_roots_92 zmover_ahead_a_cars_92 zmover_ahead_a_from_92 zmover_worth_f_top_92 zmover_worth_a_facts_92 zmover_worth_a_stack_92 zmover_a_waiting_92 zmover_a_aboard_92) (x8_92 + q7_3) (0 : Int32) q7_1 q7_2 q7_3 q7_4 q7_5 q7_6 q7_7 q7_8 q7_9 q7_10 q7_11 q7_12 q7_18 q7_19 q7_20 q7_21 q7_22 q7_23 q7_24 q7_25 q7_26 q7_27 q7_28 q7_29 q7_13 q7_14 q7_15 q7_16 q7_17)
    else
      (f_cleanAt_92, f_reach_92, v_change, a_counts_92, a_fallAt_92, mover_f_fell_92, mover_f_moved_92, mover_f_cost_92, mover_f_futile_92, mover_f_rooted_92, mover_f_left_92, mover_f_waits_92, mover_f_chosen_92, mover_f_rule_92, mover_f_stays_92, mover_f_stayTrain_92, mover_f_onlyByCar_92, mover_ahead_f_there_92, mover_ahead_f_marked_92, mover_ahead_f_trains_92, mover_ahead_f_step_92, mover_ahead_a_size_92, mover_ahead_a_age_92, mover_ahead_a_train_92, mover_ahead_a_car_92, mover_ahead_a_place_92, mover_ahead_a_links_92, mover_ahead_a_roots_92, mover_ahead_a_cars_92, mover_ahead_a_from_92, mover_worth_f_top_92, mover_worth_a_facts_92, mover_worth_a_stack_92, mover_a_waiting_92, mover_a_aboard_92)
def mX4_look_69 (v_change : Int32) (a_counts : Nat → Int32) (a_fallAt : Nat → Int32) (now_f_there : Int64) (plan_f_units : Int32) (plan_a_code : Nat → Int32) (plan_a_codeFrom : Nat → Int32) (plan_a_codeLength : Nat → Int32) (mover_f_fell : Int32) (mover_f_moved : Int32) (mover_f_cost : Int32) (mover_f_futile : Bool) (mover_f_rooted : Int64) (mover_f_left : Int64) (mover_f_waits : Int32) (mover_f_chosen : Int32) (mover_f_rule : Int32) (mover_f_stays : Int32) (mover_f_stayTrain : Int32) (mover_f_onlyByCar : Bool) (mover_worth_f_top : Int32) (mover_worth_a_facts : Nat → Int32) (mover_worth_a_stack : Nat → Int32) (mover_a_waiting : Nat → Int32) (mover_a_aboard : Nat → Int64)  (x6_69 : Int64) (s0_69 : Int32) (mover_ahead_f_there_69 : Int64) (mover_ahead_f_marked_69 : Int64) (mover_ahead_f_trains_69 : Int32) (mover_ahead_f_step_69 : Int32) (mover_ahead_a_size_69 : Nat → Int32) (mover_ahead_a_age_69 : Nat → Int32) (mover_ahead_a_train_69 : Nat → Int32) (mover_ahead_a_car_69 : Nat → Int32) (mover_ahead_a_place_69 : Nat → Int32) (mover_ahead_a_links_69 : Nat → Int32) (mover_ahead_a_roots_69 : Nat → Int32) (mover_ahead_a_cars_69 : Nat → Int32) (mover_ahead_a_from_69 : Nat → Int64) : Int32 × Int32 × Int32 × (Nat → Int32) × (Nat → Int32) × Int32 × Int32 × Int32 × Bool × Int64 × Int64 × Int32 × Int32 × Int32 × Int32 × Int32 × Bool × Int64 × Int64 × Int32 × Int32 × (Nat → Int32) × (Nat → Int32) × (Nat → Int32) × (Nat → Int32) × (Nat → Int32) × (Nat → Int32) × (Nat → Int32) × (Nat → Int32) × (Nat → Int64) × Int32 × (Nat → Int32) × (Nat → Int32) × (Nat → Int32) × (Nat → Int64) :=
  xlet (mJ7_fill_53178 40 ((-1) : Int32) a_fallAt) (fun q4 =>
    xlet (mX4_count (0 : Int32) (0 : Int32) (0 : Int32) a_counts mover_ahead_f_there_69 mover_ahead_f_trains_69 mover_ahead_a_cars_69) (fun q5 =>
      mX4_look_92 v_change now_f_there plan_f_units plan_a_code plan_a_codeFrom plan_a_codeLength 60 1 x6_69 (0 : Int32) (0 : Int32) s0_69 (0 : Int32) q5 q4 mover_f_fell mover_f_moved mover_f_cost mover_f_futile mover_f_rooted mover_f_left mover_f_waits mover_f_chosen mover_f_rule mover_f_stays mover_f_stayTrain mover_f_onlyByCar mover_ahead_f_there_69 mover_ahead_f_marked_69 mover_ahead_f_trains_69 mover_ahead_f_step_69 mover_ahead_a_size_69 mover_ahead_a_age_69 mover_ahead_a_train_69 mover_ahead_a_car_69 mover_ahead_a_place_69 mover_ahead_a_links_69 mover_ahead_a_roots_69 mover_ahead_a_cars_69 mover_ahead_a_from_69 mover_worth_f_top mover_worth_a_facts mover_worth_a_stack mover_a_waiting mover_a_aboard))
def mX4_look (v_change : Int32) (f_cleanAt : Int32) (f_reach : Int32) (f_known : Int32) (a_counts : Nat → Int32) (a_fallAt : Nat → Int32) (now_f_there : Int64) (now_f_marked : Int64) (now_f_trains : Int32) (now_f_step : Int32) (now_a_size : Nat → Int32) (now_a_age : Nat → Int32) (now_a_train : Nat → Int32) (now_a_car : Nat → Int32) (now_a_place : Nat → Int32) (now_a_links : Nat → Int32) (now_a_roots : Nat → Int32) (now_a_cars : Nat → Int32) (now_a_from : Nat → Int64) (plan_f_units : Int32) (plan_a_code : Nat → Int32) (plan_a_codeFrom : Nat → Int32) (plan_a_codeLength : Nat → Int32) (mover_f_fell : Int32) (mover_f_moved : Int32) (mover_f_cost : Int32) (mover_f_futile : Bool) (mover_f_rooted : Int64) (mover_f_left : Int64) (mover_f_waits : Int32) (mover_f_chosen : Int32) (mover_f_rule : Int32) (mover_f_stays : Int32) (mover_f_stayTrain : Int32) (mover_f_onlyByCar : Bool) (mover_ahead_f_there : Int64) (mover_ahead_f_marked : Int64) (mover_ahead_f_trains : Int32) (mover_ahead_f_step : Int32) (mover_ahead_a_size : Nat → Int32) (mover_ahead_a_age : Nat → Int32) (mover_ahead_a_train : Nat → Int32) (mover_ahead_a_car : Nat → Int32) (mover_ahead_a_place : Nat → Int32) (mover_ahead_a_links : Nat → Int32) (mover_ahead_a_roots : Nat → Int32) (mover_ahead_a_cars : Nat → Int32) (mover_ahead_a_from : Nat → Int64) (mover_worth_f_top : Int32) (mover_worth_a_facts : Nat → Int32) (mover_worth_a_stack : Nat → Int32) (mover_a_waiting : Nat → Int32) (mover_a_aboard : Nat → Int64) : Int32 × Int32 × Int32 × (Nat → Int32) × (Nat → Int32) × Int32 × Int32 × Int32 × Bool × Int64 × Int64 × Int32 × Int32 × Int32 × Int32 × Int32 × Bool × Int64 × Int64 × Int32 × Int32 × (Nat → Int32) × (Nat → Int32) × (Nat → Int32) × (Nat → Int32) × (Nat → Int32) × (Nat → Int32) × (Nat → Int32) × (Nat → Int32) × (Nat → Int64) × Int32 × (Nat → Int32) × (Nat → Int32) × (Nat → Int32) × (Nat → Int64) :=
  if f_known = v_change then
    (f_cleanAt, f_reach, f_known, a_counts, a_fallAt, mover_f_fell, mover_f_moved, mover_f_cost, mover_f_futile, mover_f_rooted, mover_f_left, mover_f_waits, mover_f_chosen, mover_f_rule, mover_f_stays, mover_f_stayTrain, mover_f_onlyByCar, mover_ahead_f_there, mover_ahead_f_marked, mover_ahead_f_trains, mover_ahead_f_step, mover_ahead_a_size, mover_ahead_a_age, mover_ahead_a_train, mover_ahead_a_car, mover_ahead_a_place, mover_ahead_a_links, mover_ahead_a_roots, mover_ahead_a_cars, mover_ahead_a_from, mover_worth_f_top, mover_worth_a_facts, mover_worth_a_stack, mover_a_waiting, mover_a_aboard)
  else
    xlet (mX10_copy mover_ahead_a_size mover_ahead_a_age mover_ahead_a_train mover_ahead_a_car mover_ahead_a_place mover_ahead_a_links mover_ahead_a_roots mover_ahead_a_cars mover_ahead_a_from now_f_there now_f_marked now_f_trains now_f_step now_a_size now_a_age now_a_train now_a_car now_a_place now_a_links now_a_roots now_a_cars now_a_from) (xu fun q2_1 => xu fun q2_2 => xu fun q2_3 => xu fun q2_4 => xu fun q2_5 => xu fun q2_6 => xu fun q2_7 => xu fun q2_8 => xu fun q2_9 => xu fun q2_10 => xu fun q2_11 => xu fun q2_12 => fun q2_13 =>
      if (q2_1 &&& ((mX10_live q2_1 q2_10 q2_11) ^^^ (-1))) = (0 : Int64) then
        mX4_look_69 v_change a_counts a_fallAt now_f_there plan_f_units plan_a_code plan_a_codeFrom plan_a_codeLength mover_f_fell mover_f_moved mover_f_cost mover_f_futile mover_f_rooted mover_f_left mover_f_waits mover_f_chosen mover_f_rule mover_f_stays mover_f_stayTrain mover_f_onlyByCar mover_worth_f_top mover_worth_a_facts mover_worth_a_stack mover_a_waiting mover_a_aboard (q2_1 &&& ((mX10_live q2_1 q2_10 q2_11) ^^^ (-1))) (0 : Int32) q2_1 q2_2 q2_3 q2_4 q2_5 q2_6 q2_7 q2_8 q2_9 q2_10 q2_11 q2_12 q2_13
      else
        mX4_look_69 v_change a_counts a_fallAt now_f_there plan_f_units plan_a_code plan_a_codeFrom plan_a_codeLength mover_f_fell mover_f_moved mover_f_cost mover_f_futile mover_f_rooted mover_f_left mover_f_waits mover_f_chosen mover_f_rule mover_f_stays mover_f_stayTrain mover_f_onlyByCar mover_worth_f_top mover_worth_a_facts mover_worth_a_stack mover_a_waiting mover_a_aboard (q2_1 &&& ((mX10_live q2_1 q2_10 q2_11) ^^^ (-1))) ((-1) : Int32) q2_1 q2_2 q2_3 q2_4 q2_5 q2_6 q2_7 q2_8 q2_9 q2_10 q2_11 q2_12 q2_13)
def mX6_add (v_value : Int32) (f_count : Int32) (a_bytes : Nat → Int32) : Int32 × (Nat → Int32) :=
  xlet (mX11_put 411 f_count v_value a_bytes) (fun q1 =>
    (f_count + 1, q1))
def mX6_writeThing_70 (v_t : Int32) (y_a_links : Nat → Int32)  : Nat → Nat → Int32 → (Nat → Int32) → Int32 × (Nat → Int32)
  | 0, i70, f_count_70, a_bytes_70 => (f_count_70, a_bytes_70)
  | k70 + 1, i70, f_count_70, a_bytes_70 =>
    if (mX10_linkOf v_t (nI i70) y_a_links) = (-1) then
      xlet (mX6_add (255 : Int32) f_count_70 a_bytes_70) (xu fun q9_1 => fun q9_2 =>
        mX6_writeThing_70 v_t y_a_links k70 (i70 + 1) q9_1 q9_2)
    else
      xlet (mX6_add (mX10_linkOf v_t (nI i70) y_a_links) f_count_70 a_bytes_70) (xu fun q10_1 => fun q10_2 =>
        mX6_writeThing_70 v_t y_a_links k70 (i70 + 1) q10_1 q10_2)
def mX6_writeThing (v_t : Int32) (f_count : Int32) (a_bytes : Nat → Int32) (y_f_marked : Int64) (y_a_age : Nat → Int32) (y_a_train : Nat → Int32) (y_a_car : Nat → Int32) (y_a_place : Nat → Int32) (y_a_links : Nat → Int32) : Int32 × (Nat → Int32) :=
  xlet (mX6_add (mX11_at 40 v_t y_a_train) f_count a_bytes) (xu fun q1_1 => fun q1_2 =>
    xlet (mX6_add (mX11_at 40 v_t y_a_car) q1_1 q1_2) (xu fun q2_1 => fun q2_2 =>
      xlet (mX6_add (mX11_at 40 v_t y_a_place) q2_1 q2_2) (xu fun q3_1 => fun q3_2 =>
        xlet (mX6_add (mX11_at 40 v_t y_a_age) q3_1 q3_2) (xu fun q4_1 => fun q4_2 =>
          if (mX11_in y_f_marked v_t) = true then
            xlet (mX6_add (1 : Int32) q4_1 q4_2) (xu fun q6_1 => fun q6_2 =>
              mX6_writeThing_70 v_t y_a_links 4 0 q6_1 q6_2)
          else
            xlet (mX6_add (0 : Int32) q4_1 q4_2) (xu fun q7_1 => fun q7_2 =>
              mX6_writeThing_70 v_t y_a_links 4 0 q7_1 q7_2)))))
def mX6_check_6 (v_length : Int32) (a_row : Nat → Int32)  : Nat → Nat → Int32 → Int32
  | 0, i6, x2_6 => if (nI i6) < v_length then
      x2_6
    else
      x2_6
  | k6 + 1, i6, x2_6 =>
    if (nI i6) < v_length then
      mX6_check_6 v_length a_row k6 (i6 + 1) (((5 * x2_6) + (a_row (nI i6).toNatClampNeg)) - ((5 * x2_6) + (a_row (nI i6).toNatClampNeg)) / 251 * 251)
    else
      x2_6
def mX6_check (n_row : Nat) (v_length : Int32) (a_row : Nat → Int32) : Int32 :=
  mX6_check_6 v_length a_row n_row 0 (239 : Int32)
def mX6_write_71 (y_f_marked : Int64) (y_a_size : Nat → Int32) (y_a_age : Nat → Int32) (y_a_train : Nat → Int32) (y_a_car : Nat → Int32) (y_a_place : Nat → Int32) (y_a_links : Nat → Int32)  : Nat → Nat → Int32 → (Nat → Int32) → Int32 × (Nat → Int32)
  | 0, i71, f_count_71, a_bytes_71 => xlet (mX6_add (mX6_check 411 f_count_71 a_bytes_71) f_count_71 a_bytes_71) (xu fun q9_1 => fun q9_2 =>
      (q9_1, q9_2))
  | k71 + 1, i71, f_count_71, a_bytes_71 =>
    xlet (mX6_add (y_a_size (nI i71).toNatClampNeg) f_count_71 a_bytes_71) (xu fun q6_1 => fun q6_2 =>
      if 0 < (y_a_size (nI i71).toNatClampNeg) then
        xlet (mX6_writeThing (nI i71) q6_1 q6_2 y_f_marked y_a_age y_a_train y_a_car y_a_place y_a_links) (xu fun q8_1 => fun q8_2 =>
          mX6_write_71 y_f_marked y_a_size y_a_age y_a_train y_a_car y_a_place y_a_links k71 (i71 + 1) q8_1 q8_2)
      else
        mX6_write_71 y_f_marked y_a_size y_a_age y_a_train y_a_car y_a_place y_a_links k71 (i71 + 1) q6_1 q6_2)
def mX6_write_31 (y_f_marked : Int64) (y_a_size : Nat → Int32) (y_a_age : Nat → Int32) (y_a_train : Nat → Int32) (y_a_car : Nat → Int32) (y_a_place : Nat → Int32) (y_a_links : Nat → Int32) (y_a_roots : Nat → Int32)  : Nat → Nat → Int32 → (Nat → Int32) → Int32 × (Nat → Int32)
  | 0, i31, f_count_31, a_bytes_31 => mX6_write_71 y_f_marked y_a_size y_a_age y_a_train y_a_car y_a_place y_a_links 40 0 f_count_31 a_bytes_31
  | k31 + 1, i31, f_count_31, a_bytes_31 =>
    if (y_a_roots (nI i31).toNatClampNeg) = (-1) then
      xlet (mX6_add (255 : Int32) f_count_31 a_bytes_31) (xu fun q4_1 => fun q4_2 =>
        mX6_write_31 y_f_marked y_a_size y_a_age y_a_train y_a_car y_a_place y_a_links y_a_roots k31 (i31 + 1) q4_1 q4_2)
    else
      xlet (mX6_add (y_a_roots (nI i31).toNatClampNeg) f_count_31 a_bytes_31) (xu fun q5_1 => fun q5_2 =>
        mX6_write_31 y_f_marked y_a_size y_a_age y_a_train y_a_car y_a_place y_a_links y_a_roots k31 (i31 + 1) q5_1 q5_2)
def mX6_write (a_bytes : Nat → Int32) (y_f_marked : Int64) (y_f_step : Int32) (y_a_size : Nat → Int32) (y_a_age : Nat → Int32) (y_a_train : Nat → Int32) (y_a_car : Nat → Int32) (y_a_place : Nat → Int32) (y_a_links : Nat → Int32) (y_a_roots : Nat → Int32) : Int32 × (Nat → Int32) :=
  xlet (mX6_add (y_f_step / 256) (0 : Int32) a_bytes) (xu fun q1_1 => fun q1_2 =>
    xlet (mX6_add (y_f_step - y_f_step / 256 * 256) q1_1 q1_2) (xu fun q2_1 => fun q2_2 =>
      mX6_write_31 y_f_marked y_a_size y_a_age y_a_train y_a_car y_a_place y_a_links y_a_roots 8 0 q2_1 q2_2))
def mX6_readThing_102 (n_tape : Nat) (v_from : Int32) (a_tape : Nat → Int32) (y_f_marked : Int64)  (s0_102 : Int64) (y_f_there_102 : Int64) (y_a_size_102 : Nat → Int32) (y_a_age_102 : Nat → Int32) (y_a_train_102 : Nat → Int32) (y_a_car_102 : Nat → Int32) (y_a_place_102 : Nat → Int32) : Bool × Int64 × Int64 × (Nat → Int32) × (Nat → Int32) × (Nat → Int32) × (Nat → Int32) × (Nat → Int32) :=
  if 99 < (mX11_at n_tape (v_from + 4) a_tape) then
    (false, y_f_there_102, y_f_marked ||| s0_102, y_a_size_102, y_a_age_102, y_a_train_102, y_a_car_102, y_a_place_102)
  else
    if 1 < (mX11_at n_tape (v_from + 5) a_tape) then
      (false, y_f_there_102, y_f_marked ||| s0_102, y_a_size_102, y_a_age_102, y_a_train_102, y_a_car_102, y_a_place_102)
    else
      (true, y_f_there_102, y_f_marked ||| s0_102, y_a_size_102, y_a_age_102, y_a_train_102, y_a_car_102, y_a_place_102)
def mX6_readThing (n_tape : Nat) (v_from : Int32) (v_t : Int32) (a_tape : Nat → Int32) (y_f_there : Int64) (y_f_marked : Int64) (y_a_size : Nat → Int32) (y_a_age : Nat → Int32) (y_a_train : Nat → Int32) (y_a_car : Nat → Int32) (y_a_place : Nat → Int32) : Bool × Int64 × Int64 × (Nat → Int32) × (Nat → Int32) × (Nat → Int32) × (Nat → Int32) × (Nat → Int32) :=
  xlet (mX10_add v_t (mX11_at n_tape v_from a_tape) y_f_there y_a_size y_a_age) (xu fun q1_1 => xu fun q1_2 => fun q1_3 =>
    xlet (mX11_put 40 v_t (mX11_at n_tape (v_from + 1) a_tape) y_a_train) (fun q2 =>
      xlet (mX11_put 40 v_t (mX11_at n_tape (v_from + 2) a_tape) y_a_car) (fun q3 =>
        xlet (mX11_put 40 v_t (mX11_at n_tape (v_from + 3) a_tape) y_a_place) (fun q4 =>
          xlet (mX11_put 40 v_t (mX11_at n_tape (v_from + 4) a_tape) q1_3) (fun q5 =>
            if (mX11_at n_tape (v_from + 5) a_tape) = 1 then
              mX6_readThing_102 n_tape v_from a_tape y_f_marked (mX11_bit v_t) q1_1 q1_2 q5 q2 q3 q4
            else
              mX6_readThing_102 n_tape v_from a_tape y_f_marked (0 : Int64) q1_1 q1_2 q5 q2 q3 q4)))))
def mX6_readBonds_175 (y_f_there : Int64) (i78 : Nat) (x3_78 : Int32) (y_a_roots_78 : Nat → Int32) (K78 : Bool → Int32 → (Nat → Int32) → (Nat → Int32) → (Nat → Int64) → Bool × (Nat → Int32) × (Nat → Int32) × (Nat → Int64)) (x2_175 : Bool) (y_a_links_175 : Nat → Int32) (y_a_from_175 : Nat → Int64) : Bool × (Nat → Int32) × (Nat → Int32) × (Nat → Int64) :=
  if (mX10_isThere (nI i78) y_f_there) = true then
    K78 x2_175 (x3_78 + 10) y_a_links_175 y_a_roots_78 y_a_from_175
  else
    K78 x2_175 (x3_78 + 1) y_a_links_175 y_a_roots_78 y_a_from_175
def mX6_readBonds_142 (n_tape : Nat) (a_tape : Nat → Int32) (i78 : Nat) (i88 : Nat) (x3_78 : Int32) (y_a_from_88 : Nat → Int64) (y_a_links_88 : Nat → Int32) (K88 : Bool → (Nat → Int32) → (Nat → Int64) → Bool × (Nat → Int32) × (Nat → Int32) × (Nat → Int64)) (s0_142 : Bool) : Bool × (Nat → Int32) × (Nat → Int32) × (Nat → Int64) :=
  if (mX11_at n_tape ((x3_78 + 6) + (nI i88)) a_tape) = 255 then
    xlet (mX10_point (nI i78) (nI i88) ((-1) : Int32) y_a_links_88 y_a_from_88) (xu fun q10_1 => fun q10_2 =>
      K88 s0_142 q10_1 q10_2)
  else
    if s0_142 = true then
      xlet (mX10_point (nI i78) (nI i88) (mX11_at n_tape ((x3_78 + 6) + (nI i88)) a_tape) y_a_links_88 y_a_from_88) (xu fun q12_1 => fun q12_2 =>
        K88 s0_142 q12_1 q12_2)
    else
      xlet (mX10_point (nI i78) (nI i88) ((-1) : Int32) y_a_links_88 y_a_from_88) (xu fun q13_1 => fun q13_2 =>
        K88 s0_142 q13_1 q13_2)
def mX6_readBonds_137 (n_tape : Nat) (a_tape : Nat → Int32) (i78 : Nat) (i88 : Nat) (x3_78 : Int32) (y_a_from_88 : Nat → Int64) (y_a_links_88 : Nat → Int32) (K88 : Bool → (Nat → Int32) → (Nat → Int64) → Bool × (Nat → Int32) × (Nat → Int32) × (Nat → Int64))  : Bool × (Nat → Int32) × (Nat → Int32) × (Nat → Int64) :=
  mX6_readBonds_142 n_tape a_tape i78 i88 x3_78 y_a_from_88 y_a_links_88 K88 true
def mX6_readBonds_88 (n_tape : Nat) (a_tape : Nat → Int32) (y_f_there : Int64) (i78 : Nat) (x3_78 : Int32) (y_a_roots_78 : Nat → Int32) (K78 : Bool → Int32 → (Nat → Int32) → (Nat → Int32) → (Nat → Int64) → Bool × (Nat → Int32) × (Nat → Int32) × (Nat → Int64)) : Nat → Nat → Bool → (Nat → Int32) → (Nat → Int64) → Bool × (Nat → Int32) × (Nat → Int32) × (Nat → Int64)
  | 0, i88, x2_88, y_a_links_88, y_a_from_88 => mX6_readBonds_175 y_f_there i78 x3_78 y_a_roots_78 K78 x2_88 y_a_links_88 y_a_from_88
  | k88 + 1, i88, x2_88, y_a_links_88, y_a_from_88 =>
    if (mX10_isThere (nI i78) y_f_there) = true then
      if x2_88 = true then
        if (mX11_at n_tape ((x3_78 + 6) + (nI i88)) a_tape) = 255 then
          mX6_readBonds_137 n_tape a_tape i78 i88 x3_78 y_a_from_88 y_a_links_88 (fun zx2_88 zy_a_links_88 zy_a_from_88 => mX6_readBonds_88 n_tape a_tape y_f_there i78 x3_78 y_a_roots_78 K78 k88 (i88 + 1) zx2_88 zy_a_links_88 zy_a_from_88)
        else
          if (mX10_isThere (mX11_at n_tape ((x3_78 + 6) + (nI i88)) a_tape) y_f_there) = true then
            mX6_readBonds_137 n_tape a_tape i78 i88 x3_78 y_a_from_88 y_a_links_88 (fun zx2_88 zy_a_links_88 zy_a_from_88 => mX6_readBonds_88 n_tape a_tape y_f_there i78 x3_78 y_a_roots_78 K78 k88 (i88 + 1) zx2_88 zy_a_links_88 zy_a_from_88)
          else
            mX6_readBonds_142 n_tape a_tape i78 i88 x3_78 y_a_from_88 y_a_links_88 (fun zx2_88 zy_a_links_88 zy_a_from_88 => mX6_readBonds_88 n_tape a_tape y_f_there i78 x3_78 y_a_roots_78 K78 k88 (i88 + 1) zx2_88 zy_a_links_88 zy_a_from_88) false
      else
        mX6_readBonds_175 y_f_there i78 x3_78 y_a_roots_78 K78 x2_88 y_a_links_88 y_a_from_88
    else
      mX6_readBonds_175 y_f_there i78 x3_78 y_a_roots_78 K78 x2_88 y_a_links_88 y_a_from_88
def mX6_readBonds_78 (n_tape : Nat) (a_tape : Nat → Int32) (y_f_there : Int64)  : Nat → Nat → Bool → Int32 → (Nat → Int32) → (Nat → Int32) → (Nat → Int64) → Bool × (Nat → Int32) × (Nat → Int32) × (Nat → Int64)
  | 0, i78, x2_78, x3_78, y_a_links_78, y_a_roots_78, y_a_from_78 => (x2_78, y_a_links_78, y_a_roots_78, y_a_from_78)
  | k78 + 1, i78, x2_78, x3_78, y_a_links_78, y_a_roots_78, y_a_from_78 =>
    mX6_readBonds_88 n_tape a_tape y_f_there i78 x3_78 y_a_roots_78 (fun zx2_78 zx3_78 zy_a_links_78 zy_a_roots_78 zy_a_from_78 => mX6_readBonds_78 n_tape a_tape y_f_there k78 (i78 + 1) zx2_78 zx3_78 zy_a_links_78 zy_a_roots_78 zy_a_from_78) 4 0 x2_78 y_a_links_78 y_a_from_78
def mX6_readBonds_45 (n_tape : Nat) (a_tape : Nat → Int32) (i4 : Nat) (y_a_roots_4 : Nat → Int32) (K4 : Bool → (Nat → Int32) → Bool × (Nat → Int32) × (Nat → Int32) × (Nat → Int64)) (s0_45 : Bool) : Bool × (Nat → Int32) × (Nat → Int32) × (Nat → Int64) :=
  if (mX11_at n_tape (2 + (nI i4)) a_tape) = 255 then
    K4 s0_45 (upd y_a_roots_4 (nI i4).toNatClampNeg (-1))
  else
    K4 s0_45 (upd y_a_roots_4 (nI i4).toNatClampNeg (mX11_at n_tape (2 + (nI i4)) a_tape))
def mX6_readBonds_44 (n_tape : Nat) (a_tape : Nat → Int32) (i4 : Nat) (y_a_roots_4 : Nat → Int32) (K4 : Bool → (Nat → Int32) → Bool × (Nat → Int32) × (Nat → Int32) × (Nat → Int64))  : Bool × (Nat → Int32) × (Nat → Int32) × (Nat → Int64) :=
  mX6_readBonds_45 n_tape a_tape i4 y_a_roots_4 K4 false
def mX6_readBonds_40 (n_tape : Nat) (a_tape : Nat → Int32) (i4 : Nat) (y_a_roots_4 : Nat → Int32) (K4 : Bool → (Nat → Int32) → Bool × (Nat → Int32) × (Nat → Int32) × (Nat → Int64))  : Bool × (Nat → Int32) × (Nat → Int32) × (Nat → Int64) :=
  mX6_readBonds_45 n_tape a_tape i4 y_a_roots_4 K4 true
def mX6_readBonds_4 (n_tape : Nat) (a_tape : Nat → Int32) (y_f_there : Int64) (y_a_links : Nat → Int32) (y_a_from : Nat → Int64)  : Nat → Nat → Bool → (Nat → Int32) → Bool × (Nat → Int32) × (Nat → Int32) × (Nat → Int64)
  | 0, i4, x2_4, y_a_roots_4 => mX6_readBonds_78 n_tape a_tape y_f_there 40 0 x2_4 (10 : Int32) y_a_links y_a_roots_4 y_a_from
  | k4 + 1, i4, x2_4, y_a_roots_4 =>
    if x2_4 = true then
      if (mX11_at n_tape (2 + (nI i4)) a_tape) = 255 then
        mX6_readBonds_40 n_tape a_tape i4 y_a_roots_4 (fun zx2_4 zy_a_roots_4 => mX6_readBonds_4 n_tape a_tape y_f_there y_a_links y_a_from k4 (i4 + 1) zx2_4 zy_a_roots_4)
      else
        if (mX10_isThere (mX11_at n_tape (2 + (nI i4)) a_tape) y_f_there) = true then
          mX6_readBonds_40 n_tape a_tape i4 y_a_roots_4 (fun zx2_4 zy_a_roots_4 => mX6_readBonds_4 n_tape a_tape y_f_there y_a_links y_a_from k4 (i4 + 1) zx2_4 zy_a_roots_4)
        else
          mX6_readBonds_44 n_tape a_tape i4 y_a_roots_4 (fun zx2_4 zy_a_roots_4 => mX6_readBonds_4 n_tape a_tape y_f_there y_a_links y_a_from k4 (i4 + 1) zx2_4 zy_a_roots_4)
    else
      mX6_readBonds_44 n_tape a_tape i4 y_a_roots_4 (fun zx2_4 zy_a_roots_4 => mX6_readBonds_4 n_tape a_tape y_f_there y_a_links y_a_from k4 (i4 + 1) zx2_4 zy_a_roots_4)
def mX6_readBonds (n_tape : Nat) (a_tape : Nat → Int32) (y_f_there : Int64) (y_a_links : Nat → Int32) (y_a_roots : Nat → Int32) (y_a_from : Nat → Int64) : Bool × (Nat → Int32) × (Nat → Int32) × (Nat → Int64) :=
  mX6_readBonds_4 n_tape a_tape y_f_there y_a_links y_a_from 8 0 true y_a_roots
def mX6_ridersAt_50 (v_place : Int32) (y_a_place : Nat → Int32) (i6 : Nat) (x4_6 : Int32) (K6 : Int32 → Int32) (s0_50 : Int32) : Int32 :=
  if s0_50 = 0 then
    K6 (x4_6 + 0)
  else
    if (y_a_place (nI i6).toNatClampNeg) = v_place then
      K6 (x4_6 + 1)
    else
      K6 (x4_6 + 0)
def mX6_ridersAt_49 (v_place : Int32) (y_a_place : Nat → Int32) (i6 : Nat) (x4_6 : Int32) (K6 : Int32 → Int32)  : Int32 :=
  mX6_ridersAt_50 v_place y_a_place i6 x4_6 K6 (0 : Int32)
def mX6_ridersAt_6 (v_train : Int32) (v_car : Int32) (v_place : Int32) (y_a_size : Nat → Int32) (y_a_train : Nat → Int32) (y_a_car : Nat → Int32) (y_a_place : Nat → Int32)  : Nat → Nat → Int32 → Int32
  | 0, i6, x4_6 => x4_6
  | k6 + 1, i6, x4_6 =>
    if 0 < (y_a_size (nI i6).toNatClampNeg) then
      if (y_a_train (nI i6).toNatClampNeg) = v_train then
        if (y_a_car (nI i6).toNatClampNeg) = v_car then
          mX6_ridersAt_50 v_place y_a_place i6 x4_6 (fun zx4_6 => mX6_ridersAt_6 v_train v_car v_place y_a_size y_a_train y_a_car y_a_place k6 (i6 + 1) zx4_6) (1 : Int32)
        else
          mX6_ridersAt_49 v_place y_a_place i6 x4_6 (fun zx4_6 => mX6_ridersAt_6 v_train v_car v_place y_a_size y_a_train y_a_car y_a_place k6 (i6 + 1) zx4_6)
      else
        mX6_ridersAt_49 v_place y_a_place i6 x4_6 (fun zx4_6 => mX6_ridersAt_6 v_train v_car v_place y_a_size y_a_train y_a_car y_a_place k6 (i6 + 1) zx4_6)
    else
      mX6_ridersAt_49 v_place y_a_place i6 x4_6 (fun zx4_6 => mX6_ridersAt_6 v_train v_car v_place y_a_size y_a_train y_a_car y_a_place k6 (i6 + 1) zx4_6)
def mX6_ridersAt (v_train : Int32) (v_car : Int32) (v_place : Int32) (y_a_size : Nat → Int32) (y_a_train : Nat → Int32) (y_a_car : Nat → Int32) (y_a_place : Nat → Int32) : Int32 :=
  mX6_ridersAt_6 v_train v_car v_place y_a_size y_a_train y_a_car y_a_place 40 0 (0 : Int32)
def mX6_countCars_125 (y_a_train : Nat → Int32) (y_a_car : Nat → Int32) (i4 : Nat) (y_a_cars_4 : Nat → Int32) (y_f_trains_4 : Int32) (K4 : Bool → Int32 → (Nat → Int32) → Bool × Int32 × (Nat → Int32)) (s0_125 : Bool) : Bool × Int32 × (Nat → Int32) :=
  xlet (mX11_put 42 (mX11_at 40 (nI i4) y_a_train) (mJ9_max_7cf53 (mX11_at 42 (mX11_at 40 (nI i4) y_a_train) y_a_cars_4) ((mX11_at 40 (nI i4) y_a_car) + 1)) y_a_cars_4) (fun q10 =>
    K4 s0_125 (mJ9_max_7cf53 y_f_trains_4 ((mX11_at 40 (nI i4) y_a_train) + 1)) q10)
def mX6_countCars_124 (y_a_train : Nat → Int32) (y_a_car : Nat → Int32) (i4 : Nat) (y_a_cars_4 : Nat → Int32) (y_f_trains_4 : Int32) (K4 : Bool → Int32 → (Nat → Int32) → Bool × Int32 × (Nat → Int32))  : Bool × Int32 × (Nat → Int32) :=
  mX6_countCars_125 y_a_train y_a_car i4 y_a_cars_4 y_f_trains_4 K4 false
def mX6_countCars_120 (y_a_train : Nat → Int32) (y_a_car : Nat → Int32) (i4 : Nat) (y_a_cars_4 : Nat → Int32) (y_f_trains_4 : Int32) (K4 : Bool → Int32 → (Nat → Int32) → Bool × Int32 × (Nat → Int32))  : Bool × Int32 × (Nat → Int32) :=
  mX6_countCars_125 y_a_train y_a_car i4 y_a_cars_4 y_f_trains_4 K4 true
def mX6_countCars_103 (y_a_size : Nat → Int32) (y_a_train : Nat → Int32) (y_a_car : Nat → Int32) (y_a_place : Nat → Int32) (i4 : Nat) (y_a_cars_4 : Nat → Int32) (y_f_trains_4 : Int32) (K4 : Bool → Int32 → (Nat → Int32) → Bool × Int32 × (Nat → Int32))  : Bool × Int32 × (Nat → Int32) :=
  if (mX11_at 40 (nI i4) y_a_train) = 0 then
    mX6_countCars_120 y_a_train y_a_car i4 y_a_cars_4 y_f_trains_4 K4
  else
    if (mX6_ridersAt ((mX11_at 40 (nI i4) y_a_train) - 1) (0 : Int32) (0 : Int32) y_a_size y_a_train y_a_car y_a_place) = 1 then
      mX6_countCars_120 y_a_train y_a_car i4 y_a_cars_4 y_f_trains_4 K4
    else
      mX6_countCars_124 y_a_train y_a_car i4 y_a_cars_4 y_f_trains_4 K4
def mX6_countCars_84 (y_a_size : Nat → Int32) (y_a_train : Nat → Int32) (y_a_car : Nat → Int32) (y_a_place : Nat → Int32) (i4 : Nat) (y_a_cars_4 : Nat → Int32) (y_f_trains_4 : Int32) (K4 : Bool → Int32 → (Nat → Int32) → Bool × Int32 × (Nat → Int32))  : Bool × Int32 × (Nat → Int32) :=
  if (mX11_at 40 (nI i4) y_a_car) = 0 then
    mX6_countCars_103 y_a_size y_a_train y_a_car y_a_place i4 y_a_cars_4 y_f_trains_4 K4
  else
    if (mX6_ridersAt (mX11_at 40 (nI i4) y_a_train) ((mX11_at 40 (nI i4) y_a_car) - 1) (0 : Int32) y_a_size y_a_train y_a_car y_a_place) = 1 then
      mX6_countCars_103 y_a_size y_a_train y_a_car y_a_place i4 y_a_cars_4 y_f_trains_4 K4
    else
      mX6_countCars_124 y_a_train y_a_car i4 y_a_cars_4 y_f_trains_4 K4
def mX6_countCars_4 (y_f_there : Int64) (y_a_size : Nat → Int32) (y_a_train : Nat → Int32) (y_a_car : Nat → Int32) (y_a_place : Nat → Int32)  : Nat → Nat → Bool → Int32 → (Nat → Int32) → Bool × Int32 × (Nat → Int32)
  | 0, i4, x1_4, y_f_trains_4, y_a_cars_4 => (x1_4, y_f_trains_4, y_a_cars_4)
  | k4 + 1, i4, x1_4, y_f_trains_4, y_a_cars_4 =>
    if x1_4 = true then
      if (mX10_isThere (nI i4) y_f_there) = true then
        if (mX6_ridersAt (mX11_at 40 (nI i4) y_a_train) (mX11_at 40 (nI i4) y_a_car) (mX11_at 40 (nI i4) y_a_place) y_a_size y_a_train y_a_car y_a_place) = 1 then
          if (mX11_at 40 (nI i4) y_a_place) = 0 then
            mX6_countCars_84 y_a_size y_a_train y_a_car y_a_place i4 y_a_cars_4 y_f_trains_4 (fun zx1_4 zy_f_trains_4 zy_a_cars_4 => mX6_countCars_4 y_f_there y_a_size y_a_train y_a_car y_a_place k4 (i4 + 1) zx1_4 zy_f_trains_4 zy_a_cars_4)
          else
            if (mX6_ridersAt (mX11_at 40 (nI i4) y_a_train) (mX11_at 40 (nI i4) y_a_car) ((mX11_at 40 (nI i4) y_a_place) - 1) y_a_size y_a_train y_a_car y_a_place) = 1 then
              mX6_countCars_84 y_a_size y_a_train y_a_car y_a_place i4 y_a_cars_4 y_f_trains_4 (fun zx1_4 zy_f_trains_4 zy_a_cars_4 => mX6_countCars_4 y_f_there y_a_size y_a_train y_a_car y_a_place k4 (i4 + 1) zx1_4 zy_f_trains_4 zy_a_cars_4)
            else
              mX6_countCars_124 y_a_train y_a_car i4 y_a_cars_4 y_f_trains_4 (fun zx1_4 zy_f_trains_4 zy_a_cars_4 => mX6_countCars_4 y_f_there y_a_size y_a_train y_a_car y_a_place k4 (i4 + 1) zx1_4 zy_f_trains_4 zy_a_cars_4)
        else
          mX6_countCars_124 y_a_train y_a_car i4 y_a_cars_4 y_f_trains_4 (fun zx1_4 zy_f_trains_4 zy_a_cars_4 => mX6_countCars_4 y_f_there y_a_size y_a_train y_a_car y_a_place k4 (i4 + 1) zx1_4 zy_f_trains_4 zy_a_cars_4)
      else
        mX6_countCars_4 y_f_there y_a_size y_a_train y_a_car y_a_place k4 (i4 + 1) x1_4 y_f_trains_4 y_a_cars_4
    else
      (x1_4, y_f_trains_4, y_a_cars_4)
def mX6_countCars (y_f_there : Int64) (y_f_trains : Int32) (y_a_size : Nat → Int32) (y_a_train : Nat → Int32) (y_a_car : Nat → Int32) (y_a_place : Nat → Int32) (y_a_cars : Nat → Int32) : Bool × Int32 × (Nat → Int32) :=
  mX6_countCars_4 y_f_there y_a_size y_a_train y_a_car y_a_place 40 0 true y_f_trains y_a_cars
def mX6_carsHold_4 (v_units : Int32) (y_f_there : Int64) (y_a_size : Nat → Int32) (y_a_train : Nat → Int32) (y_a_car : Nat → Int32)  : Nat → Nat → Bool → Bool
  | 0, i4, x2_4 => x2_4
  | k4 + 1, i4, x2_4 =>
    if x2_4 = true then
      if (mX10_isThere (nI i4) y_f_there) = true then
        if v_units < (mX10_load (mX10_mates (nI i4) y_a_size y_a_train y_a_car) y_a_size) then
          mX6_carsHold_4 v_units y_f_there y_a_size y_a_train y_a_car k4 (i4 + 1) false
        else
          mX6_carsHold_4 v_units y_f_there y_a_size y_a_train y_a_car k4 (i4 + 1) true
      else
        mX6_carsHold_4 v_units y_f_there y_a_size y_a_train y_a_car k4 (i4 + 1) true
    else
      x2_4
def mX6_carsHold (v_units : Int32) (y_f_there : Int64) (y_a_size : Nat → Int32) (y_a_train : Nat → Int32) (y_a_car : Nat → Int32) : Bool :=
  mX6_carsHold_4 v_units y_f_there y_a_size y_a_train y_a_car 40 0 true
def mX6_read_160 (n_tape : Nat) (v_length : Int32) (v_units : Int32) (a_tape : Nat → Int32)  (x4_160 : Int32) (x5_160 : Int32) (y_f_there_160 : Int64) (y_f_marked_160 : Int64) (y_f_trains_160 : Int32) (y_a_size_160 : Nat → Int32) (y_a_age_160 : Nat → Int32) (y_a_train_160 : Nat → Int32) (y_a_car_160 : Nat → Int32) (y_a_place_160 : Nat → Int32) (y_a_links_160 : Nat → Int32) (y_a_roots_160 : Nat → Int32) (y_a_cars_160 : Nat → Int32) (y_a_from_160 : Nat → Int64) : Bool × Int64 × Int64 × Int32 × Int32 × (Nat → Int32) × (Nat → Int32) × (Nat → Int32) × (Nat → Int32) × (Nat → Int32) × (Nat → Int32) × (Nat → Int32) × (Nat → Int32) × (Nat → Int64) :=
  if x5_160 = 0 then
    (false, y_f_there_160, y_f_marked_160, y_f_trains_160, ((mX11_at n_tape (0 : Int32) a_tape) * 256) + (mX11_at n_tape (1 : Int32) a_tape), y_a_size_160, y_a_age_160, y_a_train_160, y_a_car_160, y_a_place_160, y_a_links_160, y_a_roots_160, y_a_cars_160, y_a_from_160)
  else
    if x4_160 = (v_length - 1) then
      xlet (mX6_readBonds n_tape a_tape y_f_there_160 y_a_links_160 y_a_roots_160 y_a_from_160) (xu fun q15_1 => xu fun q15_2 => xu fun q15_3 => fun q15_4 =>
        if q15_1 = true then
          xlet (mX6_countCars y_f_there_160 y_f_trains_160 y_a_size_160 y_a_train_160 y_a_car_160 y_a_place_160 y_a_cars_160) (xu fun q17_1 => xu fun q17_2 => fun q17_3 =>
            if q17_1 = true then
              if (mX6_carsHold v_units y_f_there_160 y_a_size_160 y_a_train_160 y_a_car_160) = true then
                (true, y_f_there_160, y_f_marked_160, q17_2, ((mX11_at n_tape (0 : Int32) a_tape) * 256) + (mX11_at n_tape (1 : Int32) a_tape), y_a_size_160, y_a_age_160, y_a_train_160, y_a_car_160, y_a_place_160, q15_2, q15_3, q17_3, q15_4)
              else
                (false, y_f_there_160, y_f_marked_160, q17_2, ((mX11_at n_tape (0 : Int32) a_tape) * 256) + (mX11_at n_tape (1 : Int32) a_tape), y_a_size_160, y_a_age_160, y_a_train_160, y_a_car_160, y_a_place_160, q15_2, q15_3, q17_3, q15_4)
            else
              (false, y_f_there_160, y_f_marked_160, q17_2, ((mX11_at n_tape (0 : Int32) a_tape) * 256) + (mX11_at n_tape (1 : Int32) a_tape), y_a_size_160, y_a_age_160, y_a_train_160, y_a_car_160, y_a_place_160, q15_2, q15_3, q17_3, q15_4))
        else
          (false, y_f_there_160, y_f_marked_160, y_f_trains_160, ((mX11_at n_tape (0 : Int32) a_tape) * 256) + (mX11_at n_tape (1 : Int32) a_tape), y_a_size_160, y_a_age_160, y_a_train_160, y_a_car_160, y_a_place_160, q15_2, q15_3, y_a_cars_160, q15_4))
    else
      (false, y_f_there_160, y_f_marked_160, y_f_trains_160, ((mX11_at n_tape (0 : Int32) a_tape) * 256) + (mX11_at n_tape (1 : Int32) a_tape), y_a_size_160, y_a_age_160, y_a_train_160, y_a_car_160, y_a_place_160, y_a_links_160, y_a_roots_160, y_a_cars_160, y_a_from_160)
def mX6_read_138 (n_tape : Nat) (a_tape : Nat → Int32) (x4_79 : Int32) (y_a_cars_79 : Nat → Int32) (y_a_from_79 : Nat → Int64) (y_a_links_79 : Nat → Int32) (y_a_roots_79 : Nat → Int32) (y_f_trains_79 : Int32) (K79 : Int32 → Int32 → Int64 → Int64 → Int32 → (Nat → Int32) → (Nat → Int32) → (Nat → Int32) → (Nat → Int32) → (Nat → Int32) → (Nat → Int32) → (Nat → Int32) → (Nat → Int32) → (Nat → Int64) → Bool × Int64 × Int64 × Int32 × Int32 × (Nat → Int32) × (Nat → Int32) × (Nat → Int32) × (Nat → Int32) × (Nat → Int32) × (Nat → Int32) × (Nat → Int32) × (Nat → Int32) × (Nat → Int64)) (x5_138 : Int32) (y_f_there_138 : Int64) (y_f_marked_138 : Int64) (y_a_size_138 : Nat → Int32) (y_a_age_138 : Nat → Int32) (y_a_train_138 : Nat → Int32) (y_a_car_138 : Nat → Int32) (y_a_place_138 : Nat → Int32) : Bool × Int64 × Int64 × Int32 × Int32 × (Nat → Int32) × (Nat → Int32) × (Nat → Int32) × (Nat → Int32) × (Nat → Int32) × (Nat → Int32) × (Nat → Int32) × (Nat → Int32) × (Nat → Int64) :=
  if (mX11_at n_tape x4_79 a_tape) = 0 then
    K79 (x4_79 + 1) x5_138 y_f_there_138 y_f_marked_138 y_f_trains_79 y_a_size_138 y_a_age_138 y_a_train_138 y_a_car_138 y_a_place_138 y_a_links_79 y_a_roots_79 y_a_cars_79 y_a_from_79
  else
    K79 (x4_79 + 10) x5_138 y_f_there_138 y_f_marked_138 y_f_trains_79 y_a_size_138 y_a_age_138 y_a_train_138 y_a_car_138 y_a_place_138 y_a_links_79 y_a_roots_79 y_a_cars_79 y_a_from_79
def mX6_read_136 (n_tape : Nat) (a_tape : Nat → Int32) (x4_79 : Int32) (y_a_cars_79 : Nat → Int32) (y_a_from_79 : Nat → Int64) (y_a_links_79 : Nat → Int32) (y_a_roots_79 : Nat → Int32) (y_f_trains_79 : Int32) (K79 : Int32 → Int32 → Int64 → Int64 → Int32 → (Nat → Int32) → (Nat → Int32) → (Nat → Int32) → (Nat → Int32) → (Nat → Int32) → (Nat → Int32) → (Nat → Int32) → (Nat → Int32) → (Nat → Int64) → Bool × Int64 × Int64 × Int32 × Int32 × (Nat → Int32) × (Nat → Int32) × (Nat → Int32) × (Nat → Int32) × (Nat → Int32) × (Nat → Int32) × (Nat → Int32) × (Nat → Int32) × (Nat → Int64)) (s0_136 : Int32) (y_f_there_136 : Int64) (y_f_marked_136 : Int64) (y_a_size_136 : Nat → Int32) (y_a_age_136 : Nat → Int32) (y_a_train_136 : Nat → Int32) (y_a_car_136 : Nat → Int32) (y_a_place_136 : Nat → Int32) : Bool × Int64 × Int64 × Int32 × Int32 × (Nat → Int32) × (Nat → Int32) × (Nat → Int32) × (Nat → Int32) × (Nat → Int32) × (Nat → Int32) × (Nat → Int32) × (Nat → Int32) × (Nat → Int64) :=
  mX6_read_138 n_tape a_tape x4_79 y_a_cars_79 y_a_from_79 y_a_links_79 y_a_roots_79 y_f_trains_79 K79 s0_136 y_f_there_136 y_f_marked_136 y_a_size_136 y_a_age_136 y_a_train_136 y_a_car_136 y_a_place_136
def mX6_read_135 (n_tape : Nat) (a_tape : Nat → Int32) (x4_79 : Int32) (y_a_cars_79 : Nat → Int32) (y_a_from_79 : Nat → Int64) (y_a_links_79 : Nat → Int32) (y_a_roots_79 : Nat → Int32) (y_f_trains_79 : Int32) (K79 : Int32 → Int32 → Int64 → Int64 → Int32 → (Nat → Int32) → (Nat → Int32) → (Nat → Int32) → (Nat → Int32) → (Nat → Int32) → (Nat → Int32) → (Nat → Int32) → (Nat → Int32) → (Nat → Int64) → Bool × Int64 × Int64 × Int32 × Int32 × (Nat → Int32) × (Nat → Int32) × (Nat → Int32) × (Nat → Int32) × (Nat → Int32) × (Nat → Int32) × (Nat → Int32) × (Nat → Int32) × (Nat → Int64)) (y_f_there_135 : Int64) (y_f_marked_135 : Int64) (y_a_size_135 : Nat → Int32) (y_a_age_135 : Nat → Int32) (y_a_train_135 : Nat → Int32) (y_a_car_135 : Nat → Int32) (y_a_place_135 : Nat → Int32) : Bool × Int64 × Int64 × Int32 × Int32 × (Nat → Int32) × (Nat → Int32) × (Nat → Int32) × (Nat → Int32) × (Nat → Int32) × (Nat → Int32) × (Nat → Int32) × (Nat → Int32) × (Nat → Int64) :=
  mX6_read_136 n_tape a_tape x4_79 y_a_cars_79 y_a_from_79 y_a_links_79 y_a_roots_79 y_f_trains_79 K79 (0 : Int32) y_f_there_135 y_f_marked_135 y_a_size_135 y_a_age_135 y_a_train_135 y_a_car_135 y_a_place_135
def mX6_read_79 (n_tape : Nat) (v_length : Int32) (v_units : Int32) (a_tape : Nat → Int32)  : Nat → Nat → Int32 → Int32 → Int64 → Int64 → Int32 → (Nat → Int32) → (Nat → Int32) → (Nat → Int32) → (Nat → Int32) → (Nat → Int32) → (Nat → Int32) → (Nat → Int32) → (Nat → Int32) → (Nat → Int64) → Bool × Int64 × Int64 × Int32 × Int32 × (Nat → Int32) × (Nat → Int32) × (Nat → Int32) × (Nat → Int32) × (Nat → Int32) × (Nat → Int32) × (Nat → Int32) × (Nat → Int32) × (Nat → Int64)
  | 0, i79, x4_79, x5_79, y_f_there_79, y_f_marked_79, y_f_trains_79, y_a_size_79, y_a_age_79, y_a_train_79, y_a_car_79, y_a_place_79, y_a_links_79, y_a_roots_79, y_a_cars_79, y_a_from_79 => mX6_read_160 n_tape v_length v_units a_tape x4_79 x5_79 y_f_there_79 y_f_marked_79 y_f_trains_79 y_a_size_79 y_a_age_79 y_a_train_79 y_a_car_79 y_a_place_79 y_a_links_79 y_a_roots_79 y_a_cars_79 y_a_from_79
  | k79 + 1, i79, x4_79, x5_79, y_f_there_79, y_f_marked_79, y_f_trains_79, y_a_size_79, y_a_age_79, y_a_train_79, y_a_car_79, y_a_place_79, y_a_links_79, y_a_roots_79, y_a_cars_79, y_a_from_79 =>
    if x5_79 = 0 then
      mX6_read_160 n_tape v_length v_units a_tape x4_79 x5_79 y_f_there_79 y_f_marked_79 y_f_trains_79 y_a_size_79 y_a_age_79 y_a_train_79 y_a_car_79 y_a_place_79 y_a_links_79 y_a_roots_79 y_a_cars_79 y_a_from_79
    else
      if (mX11_at n_tape x4_79 a_tape) = 0 then
        mX6_read_138 n_tape a_tape x4_79 y_a_cars_79 y_a_from_79 y_a_links_79 y_a_roots_79 y_f_trains_79 (fun zx4_79 zx5_79 zy_f_there_79 zy_f_marked_79 zy_f_trains_79 zy_a_size_79 zy_a_age_79 zy_a_train_79 zy_a_car_79 zy_a_place_79 zy_a_links_79 zy_a_roots_79 zy_a_cars_79 zy_a_from_79 => mX6_read_79 n_tape v_length v_units a_tape k79 (i79 + 1) zx4_79 zx5_79 zy_f_there_79 zy_f_marked_79 zy_f_trains_79 zy_a_size_79 zy_a_age_79 zy_a_train_79 zy_a_car_79 zy_a_place_79 zy_a_links_79 zy_a_roots_79 zy_a_cars_79 zy_a_from_79) x5_79 y_f_there_79 y_f_marked_79 y_a_size_79 y_a_age_79 y_a_train_79 y_a_car_79 y_a_place_79
      else
        if (x4_79 + 10) < v_length then
          if v_units < (mX11_at n_tape x4_79 a_tape) then
            mX6_read_135 n_tape a_tape x4_79 y_a_cars_79 y_a_from_79 y_a_links_79 y_a_roots_79 y_f_trains_79 (fun zx4_79 zx5_79 zy_f_there_79 zy_f_marked_79 zy_f_trains_79 zy_a_size_79 zy_a_age_79 zy_a_train_79 zy_a_car_79 zy_a_place_79 zy_a_links_79 zy_a_roots_79 zy_a_cars_79 zy_a_from_79 => mX6_read_79 n_tape v_length v_units a_tape k79 (i79 + 1) zx4_79 zx5_79 zy_f_there_79 zy_f_marked_79 zy_f_trains_79 zy_a_size_79 zy_a_age_79 zy_a_train_79 zy_a_car_79 zy_a_place_79 zy_a_links_79 zy_a_roots_79 zy_a_cars_79 zy_a_from_79) y_f_there_79 y_f_marked_79 y_a_size_79 y_a_age_79 y_a_train_79 y_a_car_79 y_a_place_79
          else
            xlet (mX6_readThing n_tape x4_79 (nI i79) a_tape y_f_there_79 y_f_marked_79 y_a_size_79 y_a_age_79 y_a_train_79 y_a_car_79 y_a_place_79) (xu fun q10_1 => xu fun q10_2 => xu fun q10_3 => xu fun q10_4 => xu fun q10_5 => xu fun q10_6 => xu fun q10_7 => fun q10_8 =>
              if q10_1 = true then
                mX6_read_136 n_tape a_tape x4_79 y_a_cars_79 y_a_from_79 y_a_links_79 y_a_roots_79 y_f_trains_79 (fun zx4_79 zx5_79 zy_f_there_79 zy_f_marked_79 zy_f_trains_79 zy_a_size_79 zy_a_age_79 zy_a_train_79 zy_a_car_79 zy_a_place_79 zy_a_links_79 zy_a_roots_79 zy_a_cars_79 zy_a_from_79 => mX6_read_79 n_tape v_length v_units a_tape k79 (i79 + 1) zx4_79 zx5_79 zy_f_there_79 zy_f_marked_79 zy_f_trains_79 zy_a_size_79 zy_a_age_79 zy_a_train_79 zy_a_car_79 zy_a_place_79 zy_a_links_79 zy_a_roots_79 zy_a_cars_79 zy_a_from_79) (1 : Int32) q10_2 q10_3 q10_4 q10_5 q10_6 q10_7 q10_8
              else
                mX6_read_135 n_tape a_tape x4_79 y_a_cars_79 y_a_from_79 y_a_links_79 y_a_roots_79 y_f_trains_79 (fun zx4_79 zx5_79 zy_f_there_79 zy_f_marked_79 zy_f_trains_79 zy_a_size_79 zy_a_age_79 zy_a_train_79 zy_a_car_79 zy_a_place_79 zy_a_links_79 zy_a_roots_79 zy_a_cars_79 zy_a_from_79 => mX6_read_79 n_tape v_length v_units a_tape k79 (i79 + 1) zx4_79 zx5_79 zy_f_there_79 zy_f_marked_79 zy_f_trains_79 zy_a_size_79 zy_a_age_79 zy_a_train_79 zy_a_car_79 zy_a_place_79 zy_a_links_79 zy_a_roots_79 zy_a_cars_79 zy_a_from_79) q10_2 q10_3 q10_4 q10_5 q10_6 q10_7 q10_8)
        else
          mX6_read_135 n_tape a_tape x4_79 y_a_cars_79 y_a_from_79 y_a_links_79 y_a_roots_79 y_f_trains_79 (fun zx4_79 zx5_79 zy_f_there_79 zy_f_marked_79 zy_f_trains_79 zy_a_size_79 zy_a_age_79 zy_a_train_79 zy_a_car_79 zy_a_place_79 zy_a_links_79 zy_a_roots_79 zy_a_cars_79 zy_a_from_79 => mX6_read_79 n_tape v_length v_units a_tape k79 (i79 + 1) zx4_79 zx5_79 zy_f_there_79 zy_f_marked_79 zy_f_trains_79 zy_a_size_79 zy_a_age_79 zy_a_train_79 zy_a_car_79 zy_a_place_79 zy_a_links_79 zy_a_roots_79 zy_a_cars_79 zy_a_from_79) y_f_there_79 y_f_marked_79 y_a_size_79 y_a_age_79 y_a_train_79 y_a_car_79 y_a_place_79
def mX6_read (n_tape : Nat) (v_length : Int32) (v_units : Int32) (a_tape : Nat → Int32) (y_a_size : Nat → Int32) (y_a_age : Nat → Int32) (y_a_train : Nat → Int32) (y_a_car : Nat → Int32) (y_a_place : Nat → Int32) (y_a_links : Nat → Int32) (y_a_roots : Nat → Int32) (y_a_cars : Nat → Int32) (y_a_from : Nat → Int64) : Bool × Int64 × Int64 × Int32 × Int32 × (Nat → Int32) × (Nat → Int32) × (Nat → Int32) × (Nat → Int32) × (Nat → Int32) × (Nat → Int32) × (Nat → Int32) × (Nat → Int32) × (Nat → Int64) :=
  xlet (mX10_clear y_a_size y_a_age y_a_links y_a_roots y_a_cars y_a_from) (xu fun q1_1 => xu fun q1_2 => xu fun q1_3 => xu fun q1_4 => xu fun q1_5 => xu fun q1_6 => xu fun q1_7 => xu fun q1_8 => xu fun q1_9 => fun q1_10 =>
    if 50 < v_length then
      if 411 < v_length then
        (false, q1_1, q1_2, q1_3, q1_4, q1_5, q1_6, y_a_train, y_a_car, y_a_place, q1_7, q1_8, q1_9, q1_10)
      else
        if (mX6_check n_tape (v_length - 1) a_tape) = (mX11_at n_tape (v_length - 1) a_tape) then
          if 999 < (((mX11_at n_tape (0 : Int32) a_tape) * 256) + (mX11_at n_tape (1 : Int32) a_tape)) then
            mX6_read_79 n_tape v_length v_units a_tape 40 0 (10 : Int32) (0 : Int32) q1_1 q1_2 q1_3 q1_5 q1_6 y_a_train y_a_car y_a_place q1_7 q1_8 q1_9 q1_10
          else
            mX6_read_79 n_tape v_length v_units a_tape 40 0 (10 : Int32) (1 : Int32) q1_1 q1_2 q1_3 q1_5 q1_6 y_a_train y_a_car y_a_place q1_7 q1_8 q1_9 q1_10
        else
          (false, q1_1, q1_2, q1_3, q1_4, q1_5, q1_6, y_a_train, y_a_car, y_a_place, q1_7, q1_8, q1_9, q1_10)
    else
      (false, q1_1, q1_2, q1_3, q1_4, q1_5, q1_6, y_a_train, y_a_car, y_a_place, q1_7, q1_8, q1_9, q1_10))
def mX7_clear (a_begins : Nat → Int32) (a_linked : Nat → Int32) (a_links : Nat → Int32) (a_roots : Nat → Int32) (a_codeFrom : Nat → Int32) (a_codeLength : Nat → Int32) : Int32 × Int32 × Int32 × Int32 × Int32 × Int32 × (Nat → Int32) × (Nat → Int32) × (Nat → Int32) × (Nat → Int32) × (Nat → Int32) × (Nat → Int32) :=
  xlet (mJ7_fill_53178 24 (0 : Int32) a_begins) (fun q1 =>
    xlet (mJ7_fill_53178 24 (0 : Int32) a_linked) (fun q2 =>
      xlet (mJ7_fill_53178 96 ((-1) : Int32) a_links) (fun q3 =>
        xlet (mJ7_fill_53178 8 ((-1) : Int32) a_roots) (fun q4 =>
          xlet (mJ7_fill_53178 3 (0 : Int32) a_codeFrom) (fun q5 =>
            xlet (mJ7_fill_53178 3 (0 : Int32) a_codeLength) (fun q6 =>
              ((0 : Int32), (0 : Int32), (0 : Int32), (0 : Int32), (0 : Int32), (0 : Int32), q1, q2, q3, q4, q5, q6)))))))
def mX7_named_2 (v_name : Int32) (f_things : Int32) (a_names : Nat → Int32)  : Nat → Nat → Int32
  | 0, i2 => if (nI i2) < f_things then
      ((-1) : Int32)
    else
      ((-1) : Int32)
  | k2 + 1, i2 =>
    if (nI i2) < f_things then
      if (a_names (nI i2).toNatClampNeg) = v_name then
        nI i2
      else
        mX7_named_2 v_name f_things a_names k2 (i2 + 1)
    else
      ((-1) : Int32)
def mX7_named (v_name : Int32) (f_things : Int32) (a_names : Nat → Int32) : Int32 :=
  mX7_named_2 v_name f_things a_names 24 0
def mX7_emit (v_word : Int32) (f_codes : Int32) (a_code : Nat → Int32) : Int32 × (Nat → Int32) :=
  xlet (mX11_put 1600 f_codes v_word a_code) (fun q1 =>
    (f_codes + 1, q1))
