def mX11_refuse (v_kind : Int32) (a_refused : Nat → Int32) : Int32 × (Nat → Int32) :=
  xlet (mX11_put 6 v_kind ((mX11_at 6 v_kind a_refused) + 1) a_refused) (fun q1 =>
    (((-1) : Int32), q1))
def mX11_feedNumber (v_number : Int32) (f_taped : Int32) (a_tape : Nat → Int32) : Int32 × (Nat → Int32) :=
  xlet (mX11_put 1600 f_taped (((v_number.toUInt32 >>> ((24 : Int32).toUInt32 &&& Int32.toUInt32 31)).toInt32) &&& 255) a_tape) (fun q1 =>
    xlet (mX11_put 1600 (f_taped + 1) (((v_number.toUInt32 >>> ((16 : Int32).toUInt32 &&& Int32.toUInt32 31)).toInt32) &&& 255) q1) (fun q2 =>
      xlet (mX11_put 1600 ((f_taped + 1) + 1) (((v_number.toUInt32 >>> ((8 : Int32).toUInt32 &&& Int32.toUInt32 31)).toInt32) &&& 255) q2) (fun q3 =>
        xlet (mX11_put 1600 (((f_taped + 1) + 1) + 1) (((v_number.toUInt32 >>> ((0 : Int32).toUInt32 &&& Int32.toUInt32 31)).toInt32) &&& 255) q3) (fun q4 =>
          ((((f_taped + 1) + 1) + 1) + 1, q4)))))
def mX11_feed (v_a : Int32) (v_b : Int32) (v_c : Int32) (v_d : Int32) (v_e : Int32) (f_taped : Int32) (a_tape : Nat → Int32) (a_refused : Nat → Int32) : Int32 × Int32 × (Nat → Int32) × (Nat → Int32) :=
  if 1600 < (f_taped + 20) then
    xlet (mX11_refuse (0 : Int32) a_refused) (xu fun q2_1 => fun q2_2 =>
      (q2_1, f_taped, a_tape, q2_2))
  else
    xlet (mX11_feedNumber v_a f_taped a_tape) (xu fun q3_1 => fun q3_2 =>
      xlet (mX11_feedNumber v_b q3_1 q3_2) (xu fun q4_1 => fun q4_2 =>
        xlet (mX11_feedNumber v_c q4_1 q4_2) (xu fun q5_1 => fun q5_2 =>
          xlet (mX11_feedNumber v_d q5_1 q5_2) (xu fun q6_1 => fun q6_2 =>
            xlet (mX11_feedNumber v_e q6_1 q6_2) (xu fun q7_1 => fun q7_2 =>
              (q7_1, q7_1, q7_2, a_refused))))))
def mX11_end (v_n : Int32) (f_taped : Int32) (a_refused : Nat → Int32) : Bool × Int32 × (Nat → Int32) :=
  if v_n < 0 then
    xlet (mX11_refuse (0 : Int32) a_refused) (xu fun q2_1 => fun q2_2 =>
      (false, f_taped, q2_2))
  else
    if f_taped < v_n then
      xlet (mX11_refuse (0 : Int32) a_refused) (xu fun q4_1 => fun q4_2 =>
        (false, f_taped, q4_2))
    else
      (true, v_n, a_refused)
def mX11_fault (v_what : Int32) (reader_f_fault : Int32) (reader_f_place : Int32) : Int32 :=
  if v_what = 0 then
    reader_f_fault
  else if v_what = 1 then
    reader_f_place
  else 
    ((-1) : Int32)
def mX11_has (v_what : Int32) (f_seed : Int32) (plan_f_units : Int32) (yard_f_there : Int64) (yard_f_trains : Int32) (yard_f_step : Int32) (yard_a_size : Nat → Int32) (yard_a_links : Nat → Int32) (yard_a_roots : Nat → Int32) (yard_a_cars : Nat → Int32) (diary_f_count : Int32) (past_f_count : Int32) (guess_f_met : Int32) : Int32 :=
  if v_what = 0 then
    plan_f_units
  else if v_what = 1 then
    mJ13_bitCount_95d88 yard_f_there
  else if v_what = 2 then
    mJ13_bitCount_95d88 (mX10_live yard_f_there yard_a_links yard_a_roots)
  else if v_what = 3 then
    yard_f_trains
  else if v_what = 4 then
    mX10_allCars yard_f_trains yard_a_cars
  else if v_what = 5 then
    mX10_load yard_f_there yard_a_size
  else if v_what = 6 then
    yard_f_step
  else if v_what = 7 then
    diary_f_count
  else if v_what = 8 then
    guess_f_met
  else if v_what = 9 then
    past_f_count
  else if v_what = 10 then
    f_seed
  else 
    ((-1) : Int32)
def mX11_letter (v_told : Int32) (v_k : Int32) (plan_f_things : Int32) (plan_a_names : Nat → Int32) : Int32 :=
  if v_told < 0 then
    ((-1) : Int32)
  else
    if v_told < plan_f_things then
      if v_k < 0 then
        ((-1) : Int32)
      else
        if v_k < 6 then
          if v_k < 5 then
            if v_k < 4 then
              if v_k < 3 then
                if v_k < 2 then
                  if v_k < 1 then
                    ((((((mX11_at 24 v_told plan_a_names) / 27) / 27) / 27) / 27) / 27) - ((((((mX11_at 24 v_told plan_a_names) / 27) / 27) / 27) / 27) / 27) / 27 * 27
                  else
                    (((((mX11_at 24 v_told plan_a_names) / 27) / 27) / 27) / 27) - (((((mX11_at 24 v_told plan_a_names) / 27) / 27) / 27) / 27) / 27 * 27
                else
                  ((((mX11_at 24 v_told plan_a_names) / 27) / 27) / 27) - ((((mX11_at 24 v_told plan_a_names) / 27) / 27) / 27) / 27 * 27
              else
                (((mX11_at 24 v_told plan_a_names) / 27) / 27) - (((mX11_at 24 v_told plan_a_names) / 27) / 27) / 27 * 27
            else
              ((mX11_at 24 v_told plan_a_names) / 27) - ((mX11_at 24 v_told plan_a_names) / 27) / 27 * 27
          else
            (mX11_at 24 v_told plan_a_names) - (mX11_at 24 v_told plan_a_names) / 27 * 27
        else
          ((-1) : Int32)
    else
      ((-1) : Int32)
def mX11_thing (v_thing : Int32) (v_what : Int32) (plan_a_code : Nat → Int32) (plan_a_codeFrom : Nat → Int32) (plan_a_codeLength : Nat → Int32) (yard_f_there : Int64) (yard_f_marked : Int64) (yard_f_step : Int32) (yard_a_size : Nat → Int32) (yard_a_age : Nat → Int32) (yard_a_train : Nat → Int32) (yard_a_car : Nat → Int32) (yard_a_place : Nat → Int32) (yard_a_links : Nat → Int32) (yard_a_roots : Nat → Int32) (yard_a_from : Nat → Int64) (mover_worth_f_top : Int32) (mover_worth_a_facts : Nat → Int32) (mover_worth_a_stack : Nat → Int32) : Int32 × Int32 × (Nat → Int32) × (Nat → Int32) :=
  if (mX10_isThere v_thing yard_f_there) = true then
    if v_what = 0 then
      (mX11_at 40 v_thing yard_a_size, mover_worth_f_top, mover_worth_a_facts, mover_worth_a_stack)
    else if v_what = 1 then
      (mX11_at 40 v_thing yard_a_train, mover_worth_f_top, mover_worth_a_facts, mover_worth_a_stack)
    else if v_what = 2 then
      (mX11_at 40 v_thing yard_a_car, mover_worth_f_top, mover_worth_a_facts, mover_worth_a_stack)
    else if v_what = 3 then
      (mX11_at 40 v_thing yard_a_place, mover_worth_f_top, mover_worth_a_facts, mover_worth_a_stack)
    else if v_what = 4 then
      if (mX11_in (mX10_live yard_f_there yard_a_links yard_a_roots) v_thing) = true then
        ((1 : Int32), mover_worth_f_top, mover_worth_a_facts, mover_worth_a_stack)
      else
        ((0 : Int32), mover_worth_f_top, mover_worth_a_facts, mover_worth_a_stack)
    else if v_what = 5 then
      (mX10_refs v_thing (mX10_mates v_thing yard_a_size yard_a_train yard_a_car) yard_a_links yard_a_roots yard_a_from, mover_worth_f_top, mover_worth_a_facts, mover_worth_a_stack)
    else if v_what = 6 then
      (mX11_at 40 v_thing yard_a_age, mover_worth_f_top, mover_worth_a_facts, mover_worth_a_stack)
    else if v_what = 7 then
      if (mX11_in yard_f_marked v_thing) = true then
        ((1 : Int32), mover_worth_f_top, mover_worth_a_facts, mover_worth_a_stack)
      else
        ((0 : Int32), mover_worth_f_top, mover_worth_a_facts, mover_worth_a_stack)
    else if v_what = 8 then
      xlet (mX3_isPopular v_thing (mX10_mates v_thing yard_a_size yard_a_train yard_a_car) mover_worth_f_top mover_worth_a_facts mover_worth_a_stack yard_f_step yard_a_size yard_a_age yard_a_links yard_a_roots yard_a_from plan_a_code plan_a_codeFrom plan_a_codeLength) (xu fun q21_1 => xu fun q21_2 => xu fun q21_3 => fun q21_4 =>
        if q21_1 = true then
          ((1 : Int32), q21_2, q21_3, q21_4)
        else
          ((0 : Int32), q21_2, q21_3, q21_4))
    else 
      (((-1) : Int32), mover_worth_f_top, mover_worth_a_facts, mover_worth_a_stack)
  else
    (((-1) : Int32), mover_worth_f_top, mover_worth_a_facts, mover_worth_a_stack)
def mX11_link (v_thing : Int32) (v_k : Int32) (yard_f_there : Int64) (yard_a_links : Nat → Int32) : Int32 :=
  if (mX10_isThere v_thing yard_f_there) = true then
    mX10_linkOf v_thing v_k yard_a_links
  else
    ((-1) : Int32)
def mX11_root (v_k : Int32) (yard_a_roots : Nat → Int32) : Int32 :=
  mX11_at 8 v_k yard_a_roots
def mX11_train (v_train : Int32) (v_what : Int32) (yard_f_trains : Int32) (yard_a_size : Nat → Int32) (yard_a_train : Nat → Int32) (yard_a_links : Nat → Int32) (yard_a_roots : Nat → Int32) (yard_a_cars : Nat → Int32) (yard_a_from : Nat → Int64) : Int32 :=
  if v_train < 0 then
    ((-1) : Int32)
  else
    if v_train < yard_f_trains then
      if v_what = 0 then
        mX11_at 42 v_train yard_a_cars
      else if v_what = 1 then
        mJ13_bitCount_95d88 (mX10_riders v_train yard_a_size yard_a_train)
      else if v_what = 2 then
        mX10_load (mX10_riders v_train yard_a_size yard_a_train) yard_a_size
      else if v_what = 3 then
        mX10_refsInto (mX10_riders v_train yard_a_size yard_a_train) yard_a_links yard_a_roots yard_a_from
      else 
        ((-1) : Int32)
    else
      ((-1) : Int32)
def mX11_car (v_train : Int32) (v_car : Int32) (v_what : Int32) (yard_f_trains : Int32) (yard_a_size : Nat → Int32) (yard_a_train : Nat → Int32) (yard_a_car : Nat → Int32) (yard_a_links : Nat → Int32) (yard_a_roots : Nat → Int32) (yard_a_cars : Nat → Int32) (yard_a_from : Nat → Int64) : Int32 :=
  if v_train < 0 then
    ((-1) : Int32)
  else
    if v_train < yard_f_trains then
      if v_car < 0 then
        ((-1) : Int32)
      else
        if v_car < (mX11_at 42 v_train yard_a_cars) then
          if v_what = 0 then
            mJ13_bitCount_95d88 (mX10_riders_ v_train v_car yard_a_size yard_a_train yard_a_car)
          else if v_what = 1 then
            mX10_load (mX10_riders_ v_train v_car yard_a_size yard_a_train yard_a_car) yard_a_size
          else if v_what = 2 then
            mX10_refsInto (mX10_riders_ v_train v_car yard_a_size yard_a_train yard_a_car) yard_a_links yard_a_roots yard_a_from
          else 
            ((-1) : Int32)
        else
          ((-1) : Int32)
    else
      ((-1) : Int32)
def mX11_falls (v_thing : Int32) (f_changes : Int32) (plan_f_units : Int32) (plan_a_code : Nat → Int32) (plan_a_codeFrom : Nat → Int32) (plan_a_codeLength : Nat → Int32) (yard_f_there : Int64) (yard_f_marked : Int64) (yard_f_trains : Int32) (yard_f_step : Int32) (yard_a_size : Nat → Int32) (yard_a_age : Nat → Int32) (yard_a_train : Nat → Int32) (yard_a_car : Nat → Int32) (yard_a_place : Nat → Int32) (yard_a_links : Nat → Int32) (yard_a_roots : Nat → Int32) (yard_a_cars : Nat → Int32) (yard_a_from : Nat → Int64) (mover_f_fell : Int32) (mover_f_moved : Int32) (mover_f_cost : Int32) (mover_f_futile : Bool) (mover_f_rooted : Int64) (mover_f_left : Int64) (mover_f_waits : Int32) (mover_f_chosen : Int32) (mover_f_rule : Int32) (mover_f_stays : Int32) (mover_f_stayTrain : Int32) (mover_f_onlyByCar : Bool) (mover_ahead_f_there : Int64) (mover_ahead_f_marked : Int64) (mover_ahead_f_trains : Int32) (mover_ahead_f_step : Int32) (mover_ahead_a_size : Nat → Int32) (mover_ahead_a_age : Nat → Int32) (mover_ahead_a_train : Nat → Int32) (mover_ahead_a_car : Nat → Int32) (mover_ahead_a_place : Nat → Int32) (mover_ahead_a_links : Nat → Int32) (mover_ahead_a_roots : Nat → Int32) (mover_ahead_a_cars : Nat → Int32) (mover_ahead_a_from : Nat → Int64) (mover_worth_f_top : Int32) (mover_worth_a_facts : Nat → Int32) (mover_worth_a_stack : Nat → Int32) (mover_a_waiting : Nat → Int32) (mover_a_aboard : Nat → Int64) (outlook_f_cleanAt : Int32) (outlook_f_reach : Int32) (outlook_f_known : Int32) (outlook_a_counts : Nat → Int32) (outlook_a_fallAt : Nat → Int32) : Int32 × Int32 × Int32 × Int32 × Bool × Int64 × Int64 × Int32 × Int32 × Int32 × Int32 × Int32 × Bool × Int64 × Int64 × Int32 × Int32 × (Nat → Int32) × (Nat → Int32) × (Nat → Int32) × (Nat → Int32) × (Nat → Int32) × (Nat → Int32) × (Nat → Int32) × (Nat → Int32) × (Nat → Int64) × Int32 × (Nat → Int32) × (Nat → Int32) × (Nat → Int32) × (Nat → Int64) × Int32 × Int32 × Int32 × (Nat → Int32) × (Nat → Int32) :=
  if (mX10_isThere v_thing yard_f_there) = true then
    xlet (mX4_look f_changes outlook_f_cleanAt outlook_f_reach outlook_f_known outlook_a_counts outlook_a_fallAt yard_f_there yard_f_marked yard_f_trains yard_f_step yard_a_size yard_a_age yard_a_train yard_a_car yard_a_place yard_a_links yard_a_roots yard_a_cars yard_a_from plan_f_units plan_a_code plan_a_codeFrom plan_a_codeLength mover_f_fell mover_f_moved mover_f_cost mover_f_futile mover_f_rooted mover_f_left mover_f_waits mover_f_chosen mover_f_rule mover_f_stays mover_f_stayTrain mover_f_onlyByCar mover_ahead_f_there mover_ahead_f_marked mover_ahead_f_trains mover_ahead_f_step mover_ahead_a_size mover_ahead_a_age mover_ahead_a_train mover_ahead_a_car mover_ahead_a_place mover_ahead_a_links mover_ahead_a_roots mover_ahead_a_cars mover_ahead_a_from mover_worth_f_top mover_worth_a_facts mover_worth_a_stack mover_a_waiting mover_a_aboard) (xu fun q2_1 => xu fun q2_2 => xu fun q2_3 => xu fun q2_4 => xu fun q2_5 => xu fun q2_6 => xu fun q2_7 => xu fun q2_8 => xu fun q2_9 => xu fun q2_10 => xu fun q2_11 => xu fun q2_12 => xu fun q2_13 => xu fun q2_14 => xu fun q2_15 => xu fun q2_16 => xu fun q2_17 => xu fun q2_18 => xu fun q2_19 => xu fun q2_20 => xu fun q2_21 => xu fun q2_22 => xu fun q2_23 => xu fun q2_24 => xu fun q2_25 => xu fun q2_26 => xu fun q2_27 => xu fun q2_28 => xu fun q2_29 => xu fun q2_30 => xu fun q2_31 => xu fun q2_32 => xu fun q2_33 => xu fun q2_34 => fun q2_35 =>
      (mX11_at 40 v_thing q2_5, q2_6, q2_7, q2_8, q2_9, q2_10, q2_11, q2_12, q2_13, q2_14, q2_15, q2_16, q2_17, q2_18, q2_19, q2_20, q2_21, q2_22, q2_23, q2_24, q2_25, q2_26, q2_27, q2_28, q2_29, q2_30, q2_31, q2_32, q2_33, q2_34, q2_35, q2_1, q2_2, q2_3, q2_4, q2_5))
  else
    (((-1) : Int32), mover_f_fell, mover_f_moved, mover_f_cost, mover_f_futile, mover_f_rooted, mover_f_left, mover_f_waits, mover_f_chosen, mover_f_rule, mover_f_stays, mover_f_stayTrain, mover_f_onlyByCar, mover_ahead_f_there, mover_ahead_f_marked, mover_ahead_f_trains, mover_ahead_f_step, mover_ahead_a_size, mover_ahead_a_age, mover_ahead_a_train, mover_ahead_a_car, mover_ahead_a_place, mover_ahead_a_links, mover_ahead_a_roots, mover_ahead_a_cars, mover_ahead_a_from, mover_worth_f_top, mover_worth_a_facts, mover_worth_a_stack, mover_a_waiting, mover_a_aboard, outlook_f_cleanAt, outlook_f_reach, outlook_f_known, outlook_a_counts, outlook_a_fallAt)
def mX11_clean (f_changes : Int32) (plan_f_units : Int32) (plan_a_code : Nat → Int32) (plan_a_codeFrom : Nat → Int32) (plan_a_codeLength : Nat → Int32) (yard_f_there : Int64) (yard_f_marked : Int64) (yard_f_trains : Int32) (yard_f_step : Int32) (yard_a_size : Nat → Int32) (yard_a_age : Nat → Int32) (yard_a_train : Nat → Int32) (yard_a_car : Nat → Int32) (yard_a_place : Nat → Int32) (yard_a_links : Nat → Int32) (yard_a_roots : Nat → Int32) (yard_a_cars : Nat → Int32) (yard_a_from : Nat → Int64) (mover_f_fell : Int32) (mover_f_moved : Int32) (mover_f_cost : Int32) (mover_f_futile : Bool) (mover_f_rooted : Int64) (mover_f_left : Int64) (mover_f_waits : Int32) (mover_f_chosen : Int32) (mover_f_rule : Int32) (mover_f_stays : Int32) (mover_f_stayTrain : Int32) (mover_f_onlyByCar : Bool) (mover_ahead_f_there : Int64) (mover_ahead_f_marked : Int64) (mover_ahead_f_trains : Int32) (mover_ahead_f_step : Int32) (mover_ahead_a_size : Nat → Int32) (mover_ahead_a_age : Nat → Int32) (mover_ahead_a_train : Nat → Int32) (mover_ahead_a_car : Nat → Int32) (mover_ahead_a_place : Nat → Int32) (mover_ahead_a_links : Nat → Int32) (mover_ahead_a_roots : Nat → Int32) (mover_ahead_a_cars : Nat → Int32) (mover_ahead_a_from : Nat → Int64) (mover_worth_f_top : Int32) (mover_worth_a_facts : Nat → Int32) (mover_worth_a_stack : Nat → Int32) (mover_a_waiting : Nat → Int32) (mover_a_aboard : Nat → Int64) (outlook_f_cleanAt : Int32) (outlook_f_reach : Int32) (outlook_f_known : Int32) (outlook_a_counts : Nat → Int32) (outlook_a_fallAt : Nat → Int32) : Int32 × Int32 × Int32 × Int32 × Bool × Int64 × Int64 × Int32 × Int32 × Int32 × Int32 × Int32 × Bool × Int64 × Int64 × Int32 × Int32 × (Nat → Int32) × (Nat → Int32) × (Nat → Int32) × (Nat → Int32) × (Nat → Int32) × (Nat → Int32) × (Nat → Int32) × (Nat → Int32) × (Nat → Int64) × Int32 × (Nat → Int32) × (Nat → Int32) × (Nat → Int32) × (Nat → Int64) × Int32 × Int32 × Int32 × (Nat → Int32) × (Nat → Int32) :=
  xlet (mX4_look f_changes outlook_f_cleanAt outlook_f_reach outlook_f_known outlook_a_counts outlook_a_fallAt yard_f_there yard_f_marked yard_f_trains yard_f_step yard_a_size yard_a_age yard_a_train yard_a_car yard_a_place yard_a_links yard_a_roots yard_a_cars yard_a_from plan_f_units plan_a_code plan_a_codeFrom plan_a_codeLength mover_f_fell mover_f_moved mover_f_cost mover_f_futile mover_f_rooted mover_f_left mover_f_waits mover_f_chosen mover_f_rule mover_f_stays mover_f_stayTrain mover_f_onlyByCar mover_ahead_f_there mover_ahead_f_marked mover_ahead_f_trains mover_ahead_f_step mover_ahead_a_size mover_ahead_a_age mover_ahead_a_train mover_ahead_a_car mover_ahead_a_place mover_ahead_a_links mover_ahead_a_roots mover_ahead_a_cars mover_ahead_a_from mover_worth_f_top mover_worth_a_facts mover_worth_a_stack mover_a_waiting mover_a_aboard) (xu fun q1_1 => xu fun q1_2 => xu fun q1_3 => xu fun q1_4 => xu fun q1_5 => xu fun q1_6 => xu fun q1_7 => xu fun q1_8 => xu fun q1_9 => xu fun q1_10 => xu fun q1_11 => xu fun q1_12 => xu fun q1_13 => xu fun q1_14 => xu fun q1_15 => xu fun q1_16 => xu fun q1_17 => xu fun q1_18 => xu fun q1_19 => xu fun q1_20 => xu fun q1_21 => xu fun q1_22 => xu fun q1_23 => xu fun q1_24 => xu fun q1_25 => xu fun q1_26 => xu fun q1_27 => xu fun q1_28 => xu fun q1_29 => xu fun q1_30 => xu fun q1_31 => xu fun q1_32 => xu fun q1_33 => xu fun q1_34 => fun q1_35 =>
    (q1_1, q1_6, q1_7, q1_8, q1_9, q1_10, q1_11, q1_12, q1_13, q1_14, q1_15, q1_16, q1_17, q1_18, q1_19, q1_20, q1_21, q1_22, q1_23, q1_24, q1_25, q1_26, q1_27, q1_28, q1_29, q1_30, q1_31, q1_32, q1_33, q1_34, q1_35, q1_1, q1_2, q1_3, q1_4, q1_5))
def mX11_hasHeap (plan_f_units : Int32) : Bool :=
  if 0 < plan_f_units then
    true
  else
    false
def mX11_later (v_n : Int32) (v_what : Int32) (f_changes : Int32) (plan_f_units : Int32) (plan_a_code : Nat → Int32) (plan_a_codeFrom : Nat → Int32) (plan_a_codeLength : Nat → Int32) (yard_f_there : Int64) (yard_f_marked : Int64) (yard_f_trains : Int32) (yard_f_step : Int32) (yard_a_size : Nat → Int32) (yard_a_age : Nat → Int32) (yard_a_train : Nat → Int32) (yard_a_car : Nat → Int32) (yard_a_place : Nat → Int32) (yard_a_links : Nat → Int32) (yard_a_roots : Nat → Int32) (yard_a_cars : Nat → Int32) (yard_a_from : Nat → Int64) (mover_f_fell : Int32) (mover_f_moved : Int32) (mover_f_cost : Int32) (mover_f_futile : Bool) (mover_f_rooted : Int64) (mover_f_left : Int64) (mover_f_waits : Int32) (mover_f_chosen : Int32) (mover_f_rule : Int32) (mover_f_stays : Int32) (mover_f_stayTrain : Int32) (mover_f_onlyByCar : Bool) (mover_ahead_f_there : Int64) (mover_ahead_f_marked : Int64) (mover_ahead_f_trains : Int32) (mover_ahead_f_step : Int32) (mover_ahead_a_size : Nat → Int32) (mover_ahead_a_age : Nat → Int32) (mover_ahead_a_train : Nat → Int32) (mover_ahead_a_car : Nat → Int32) (mover_ahead_a_place : Nat → Int32) (mover_ahead_a_links : Nat → Int32) (mover_ahead_a_roots : Nat → Int32) (mover_ahead_a_cars : Nat → Int32) (mover_ahead_a_from : Nat → Int64) (mover_worth_f_top : Int32) (mover_worth_a_facts : Nat → Int32) (mover_worth_a_stack : Nat → Int32) (mover_a_waiting : Nat → Int32) (mover_a_aboard : Nat → Int64) (outlook_f_cleanAt : Int32) (outlook_f_reach : Int32) (outlook_f_known : Int32) (outlook_a_counts : Nat → Int32) (outlook_a_fallAt : Nat → Int32) : Int32 × Int32 × Int32 × Int32 × Bool × Int64 × Int64 × Int32 × Int32 × Int32 × Int32 × Int32 × Bool × Int64 × Int64 × Int32 × Int32 × (Nat → Int32) × (Nat → Int32) × (Nat → Int32) × (Nat → Int32) × (Nat → Int32) × (Nat → Int32) × (Nat → Int32) × (Nat → Int32) × (Nat → Int64) × Int32 × (Nat → Int32) × (Nat → Int32) × (Nat → Int32) × (Nat → Int64) × Int32 × Int32 × Int32 × (Nat → Int32) × (Nat → Int32) :=
  if (mX11_hasHeap plan_f_units) = true then
    if v_n < 0 then
      (((-1) : Int32), mover_f_fell, mover_f_moved, mover_f_cost, mover_f_futile, mover_f_rooted, mover_f_left, mover_f_waits, mover_f_chosen, mover_f_rule, mover_f_stays, mover_f_stayTrain, mover_f_onlyByCar, mover_ahead_f_there, mover_ahead_f_marked, mover_ahead_f_trains, mover_ahead_f_step, mover_ahead_a_size, mover_ahead_a_age, mover_ahead_a_train, mover_ahead_a_car, mover_ahead_a_place, mover_ahead_a_links, mover_ahead_a_roots, mover_ahead_a_cars, mover_ahead_a_from, mover_worth_f_top, mover_worth_a_facts, mover_worth_a_stack, mover_a_waiting, mover_a_aboard, outlook_f_cleanAt, outlook_f_reach, outlook_f_known, outlook_a_counts, outlook_a_fallAt)
    else
      if 60 < v_n then
        (((-1) : Int32), mover_f_fell, mover_f_moved, mover_f_cost, mover_f_futile, mover_f_rooted, mover_f_left, mover_f_waits, mover_f_chosen, mover_f_rule, mover_f_stays, mover_f_stayTrain, mover_f_onlyByCar, mover_ahead_f_there, mover_ahead_f_marked, mover_ahead_f_trains, mover_ahead_f_step, mover_ahead_a_size, mover_ahead_a_age, mover_ahead_a_train, mover_ahead_a_car, mover_ahead_a_place, mover_ahead_a_links, mover_ahead_a_roots, mover_ahead_a_cars, mover_ahead_a_from, mover_worth_f_top, mover_worth_a_facts, mover_worth_a_stack, mover_a_waiting, mover_a_aboard, outlook_f_cleanAt, outlook_f_reach, outlook_f_known, outlook_a_counts, outlook_a_fallAt)
      else
        if v_what < 0 then
          (((-1) : Int32), mover_f_fell, mover_f_moved, mover_f_cost, mover_f_futile, mover_f_rooted, mover_f_left, mover_f_waits, mover_f_chosen, mover_f_rule, mover_f_stays, mover_f_stayTrain, mover_f_onlyByCar, mover_ahead_f_there, mover_ahead_f_marked, mover_ahead_f_trains, mover_ahead_f_step, mover_ahead_a_size, mover_ahead_a_age, mover_ahead_a_train, mover_ahead_a_car, mover_ahead_a_place, mover_ahead_a_links, mover_ahead_a_roots, mover_ahead_a_cars, mover_ahead_a_from, mover_worth_f_top, mover_worth_a_facts, mover_worth_a_stack, mover_a_waiting, mover_a_aboard, outlook_f_cleanAt, outlook_f_reach, outlook_f_known, outlook_a_counts, outlook_a_fallAt)
        else
          if v_what < 5 then
            xlet (mX4_look f_changes outlook_f_cleanAt outlook_f_reach outlook_f_known outlook_a_counts outlook_a_fallAt yard_f_there yard_f_marked yard_f_trains yard_f_step yard_a_size yard_a_age yard_a_train yard_a_car yard_a_place yard_a_links yard_a_roots yard_a_cars yard_a_from plan_f_units plan_a_code plan_a_codeFrom plan_a_codeLength mover_f_fell mover_f_moved mover_f_cost mover_f_futile mover_f_rooted mover_f_left mover_f_waits mover_f_chosen mover_f_rule mover_f_stays mover_f_stayTrain mover_f_onlyByCar mover_ahead_f_there mover_ahead_f_marked mover_ahead_f_trains mover_ahead_f_step mover_ahead_a_size mover_ahead_a_age mover_ahead_a_train mover_ahead_a_car mover_ahead_a_place mover_ahead_a_links mover_ahead_a_roots mover_ahead_a_cars mover_ahead_a_from mover_worth_f_top mover_worth_a_facts mover_worth_a_stack mover_a_waiting mover_a_aboard) (xu fun q6_1 => xu fun q6_2 => xu fun q6_3 => xu fun q6_4 => xu fun q6_5 => xu fun q6_6 => xu fun q6_7 => xu fun q6_8 => xu fun q6_9 => xu fun q6_10 => xu fun q6_11 => xu fun q6_12 => xu fun q6_13 => xu fun q6_14 => xu fun q6_15 => xu fun q6_16 => xu fun q6_17 => xu fun q6_18 => xu fun q6_19 => xu fun q6_20 => xu fun q6_21 => xu fun q6_22 => xu fun q6_23 => xu fun q6_24 => xu fun q6_25 => xu fun q6_26 => xu fun q6_27 => xu fun q6_28 => xu fun q6_29 => xu fun q6_30 => xu fun q6_31 => xu fun q6_32 => xu fun q6_33 => xu fun q6_34 => fun q6_35 =>
              if q6_2 < v_n then
                (((-1) : Int32), q6_6, q6_7, q6_8, q6_9, q6_10, q6_11, q6_12, q6_13, q6_14, q6_15, q6_16, q6_17, q6_18, q6_19, q6_20, q6_21, q6_22, q6_23, q6_24, q6_25, q6_26, q6_27, q6_28, q6_29, q6_30, q6_31, q6_32, q6_33, q6_34, q6_35, q6_1, q6_2, q6_3, q6_4, q6_5)
              else
                (mX11_at 305 ((v_n * 5) + v_what) q6_4, q6_6, q6_7, q6_8, q6_9, q6_10, q6_11, q6_12, q6_13, q6_14, q6_15, q6_16, q6_17, q6_18, q6_19, q6_20, q6_21, q6_22, q6_23, q6_24, q6_25, q6_26, q6_27, q6_28, q6_29, q6_30, q6_31, q6_32, q6_33, q6_34, q6_35, q6_1, q6_2, q6_3, q6_4, q6_5))
          else
            (((-1) : Int32), mover_f_fell, mover_f_moved, mover_f_cost, mover_f_futile, mover_f_rooted, mover_f_left, mover_f_waits, mover_f_chosen, mover_f_rule, mover_f_stays, mover_f_stayTrain, mover_f_onlyByCar, mover_ahead_f_there, mover_ahead_f_marked, mover_ahead_f_trains, mover_ahead_f_step, mover_ahead_a_size, mover_ahead_a_age, mover_ahead_a_train, mover_ahead_a_car, mover_ahead_a_place, mover_ahead_a_links, mover_ahead_a_roots, mover_ahead_a_cars, mover_ahead_a_from, mover_worth_f_top, mover_worth_a_facts, mover_worth_a_stack, mover_a_waiting, mover_a_aboard, outlook_f_cleanAt, outlook_f_reach, outlook_f_known, outlook_a_counts, outlook_a_fallAt)
  else
    (((-1) : Int32), mover_f_fell, mover_f_moved, mover_f_cost, mover_f_futile, mover_f_rooted, mover_f_left, mover_f_waits, mover_f_chosen, mover_f_rule, mover_f_stays, mover_f_stayTrain, mover_f_onlyByCar, mover_ahead_f_there, mover_ahead_f_marked, mover_ahead_f_trains, mover_ahead_f_step, mover_ahead_a_size, mover_ahead_a_age, mover_ahead_a_train, mover_ahead_a_car, mover_ahead_a_place, mover_ahead_a_links, mover_ahead_a_roots, mover_ahead_a_cars, mover_ahead_a_from, mover_worth_f_top, mover_worth_a_facts, mover_worth_a_stack, mover_a_waiting, mover_a_aboard, outlook_f_cleanAt, outlook_f_reach, outlook_f_known, outlook_a_counts, outlook_a_fallAt)
def mX11_retains (v_thing : Int32) (yard_f_there : Int64) (yard_a_links : Nat → Int32) (yard_a_roots : Nat → Int32) : Int32 :=
  if (mX10_isThere v_thing yard_f_there) = true then
    mX0_retained v_thing yard_f_there yard_a_links yard_a_roots
  else
    ((-1) : Int32)
def mX11_holder (v_what : Int32) (yard_f_there : Int64) (yard_f_marked : Int64) (yard_f_trains : Int32) (yard_f_step : Int32) (yard_a_size : Nat → Int32) (yard_a_age : Nat → Int32) (yard_a_train : Nat → Int32) (yard_a_car : Nat → Int32) (yard_a_place : Nat → Int32) (yard_a_links : Nat → Int32) (yard_a_roots : Nat → Int32) (yard_a_cars : Nat → Int32) (yard_a_from : Nat → Int64) (draft_f_there : Int64) (draft_f_marked : Int64) (draft_f_trains : Int32) (draft_f_step : Int32) (draft_a_size : Nat → Int32) (draft_a_age : Nat → Int32) (draft_a_train : Nat → Int32) (draft_a_car : Nat → Int32) (draft_a_place : Nat → Int32) (draft_a_links : Nat → Int32) (draft_a_roots : Nat → Int32) (draft_a_cars : Nat → Int32) (draft_a_from : Nat → Int64) (a_holding : Nat → Int32) : Int32 × Int64 × Int64 × Int32 × Int32 × (Nat → Int32) × (Nat → Int32) × (Nat → Int32) × (Nat → Int32) × (Nat → Int32) × (Nat → Int32) × (Nat → Int32) × (Nat → Int32) × (Nat → Int64) × (Nat → Int32) :=
  if v_what < 0 then
    (((-1) : Int32), draft_f_there, draft_f_marked, draft_f_trains, draft_f_step, draft_a_size, draft_a_age, draft_a_train, draft_a_car, draft_a_place, draft_a_links, draft_a_roots, draft_a_cars, draft_a_from, a_holding)
  else
    if 2 < v_what then
      (((-1) : Int32), draft_f_there, draft_f_marked, draft_f_trains, draft_f_step, draft_a_size, draft_a_age, draft_a_train, draft_a_car, draft_a_place, draft_a_links, draft_a_roots, draft_a_cars, draft_a_from, a_holding)
    else
      xlet (mX10_copy draft_a_size draft_a_age draft_a_train draft_a_car draft_a_place draft_a_links draft_a_roots draft_a_cars draft_a_from yard_f_there yard_f_marked yard_f_trains yard_f_step yard_a_size yard_a_age yard_a_train yard_a_car yard_a_place yard_a_links yard_a_roots yard_a_cars yard_a_from) (xu fun q3_1 => xu fun q3_2 => xu fun q3_3 => xu fun q3_4 => xu fun q3_5 => xu fun q3_6 => xu fun q3_7 => xu fun q3_8 => xu fun q3_9 => xu fun q3_10 => xu fun q3_11 => xu fun q3_12 => fun q3_13 =>
        xlet (mX0_findHolder 3 q3_1 q3_10 q3_11 a_holding) (xu fun q4_1 => xu fun q4_2 => xu fun q4_3 => fun q4_4 =>
          if q4_1 = true then
            (mX11_at 3 v_what q4_4, q3_1, q3_2, q3_3, q3_4, q3_5, q3_6, q3_7, q3_8, q3_9, q4_2, q4_3, q3_12, q3_13, q4_4)
          else
            (((-1) : Int32), q3_1, q3_2, q3_3, q3_4, q3_5, q3_6, q3_7, q3_8, q3_9, q4_2, q4_3, q3_12, q3_13, q4_4)))
def mX11_far (v_thing : Int32) (yard_f_there : Int64) (yard_a_links : Nat → Int32) (yard_a_roots : Nat → Int32) : Int32 :=
  if (mX10_isThere v_thing yard_f_there) = true then
    mX0_distance v_thing yard_f_there yard_a_links yard_a_roots
  else
    ((-1) : Int32)
def mX11_ring (v_thing : Int32) (yard_f_there : Int64) (yard_a_links : Nat → Int32) : Int32 :=
  if (mX10_isThere v_thing yard_f_there) = true then
    if (mX11_in (mX10_reach (mX10_linkedFrom v_thing yard_a_links) yard_f_there yard_a_links) v_thing) = true then
      (1 : Int32)
    else
      (0 : Int32)
  else
    ((-1) : Int32)
def mX11_odds (v_thing : Int32) (plan_f_churn : Int32) (yard_f_there : Int64) (yard_f_marked : Int64) (yard_f_trains : Int32) (yard_f_step : Int32) (yard_a_size : Nat → Int32) (yard_a_age : Nat → Int32) (yard_a_train : Nat → Int32) (yard_a_car : Nat → Int32) (yard_a_place : Nat → Int32) (yard_a_links : Nat → Int32) (yard_a_roots : Nat → Int32) (yard_a_cars : Nat → Int32) (yard_a_from : Nat → Int64) (draft_f_there : Int64) (draft_f_marked : Int64) (draft_f_trains : Int32) (draft_f_step : Int32) (draft_a_size : Nat → Int32) (draft_a_age : Nat → Int32) (draft_a_train : Nat → Int32) (draft_a_car : Nat → Int32) (draft_a_place : Nat → Int32) (draft_a_links : Nat → Int32) (draft_a_roots : Nat → Int32) (draft_a_cars : Nat → Int32) (draft_a_from : Nat → Int64) : Int32 × Int64 × Int64 × Int32 × Int32 × (Nat → Int32) × (Nat → Int32) × (Nat → Int32) × (Nat → Int32) × (Nat → Int32) × (Nat → Int32) × (Nat → Int32) × (Nat → Int32) × (Nat → Int64) :=
  if (mJ13_bitCount_95d88 (mX10_live yard_f_there yard_a_links yard_a_roots)) = 0 then
    (((-1) : Int32), draft_f_there, draft_f_marked, draft_f_trains, draft_f_step, draft_a_size, draft_a_age, draft_a_train, draft_a_car, draft_a_place, draft_a_links, draft_a_roots, draft_a_cars, draft_a_from)
  else
    if v_thing = (-1) then
      (100 * (((mJ13_bitCount_95d88 (mX10_live yard_f_there yard_a_links yard_a_roots)) * 4) * (mJ13_bitCount_95d88 (mX10_live yard_f_there yard_a_links yard_a_roots))), draft_f_there, draft_f_marked, draft_f_trains, draft_f_step, draft_a_size, draft_a_age, draft_a_train, draft_a_car, draft_a_place, draft_a_links, draft_a_roots, draft_a_cars, draft_a_from)
    else
      if (mX10_isThere v_thing yard_f_there) = true then
        if (mX11_in (mX10_live yard_f_there yard_a_links yard_a_roots) v_thing) = true then
          xlet (mX10_copy draft_a_size draft_a_age draft_a_train draft_a_car draft_a_place draft_a_links draft_a_roots draft_a_cars draft_a_from yard_f_there yard_f_marked yard_f_trains yard_f_step yard_a_size yard_a_age yard_a_train yard_a_car yard_a_place yard_a_links yard_a_roots yard_a_cars yard_a_from) (xu fun q5_1 => xu fun q5_2 => xu fun q5_3 => xu fun q5_4 => xu fun q5_5 => xu fun q5_6 => xu fun q5_7 => xu fun q5_8 => xu fun q5_9 => xu fun q5_10 => xu fun q5_11 => xu fun q5_12 => fun q5_13 =>
            xlet (mX0_rowsAlive v_thing q5_1 q5_10 q5_11) (xu fun q6_1 => fun q6_2 =>
              ((plan_f_churn * q6_1) + ((100 - plan_f_churn) * (((mJ13_bitCount_95d88 (mX10_live yard_f_there yard_a_links yard_a_roots)) * 4) * (mJ13_bitCount_95d88 (mX10_live yard_f_there yard_a_links yard_a_roots)))), q5_1, q5_2, q5_3, q5_4, q5_5, q5_6, q5_7, q5_8, q5_9, q6_2, q5_11, q5_12, q5_13)))
        else
          ((0 : Int32), draft_f_there, draft_f_marked, draft_f_trains, draft_f_step, draft_a_size, draft_a_age, draft_a_train, draft_a_car, draft_a_place, draft_a_links, draft_a_roots, draft_a_cars, draft_a_from)
      else
        (((-1) : Int32), draft_f_there, draft_f_marked, draft_f_trains, draft_f_step, draft_a_size, draft_a_age, draft_a_train, draft_a_car, draft_a_place, draft_a_links, draft_a_roots, draft_a_cars, draft_a_from)
def mX11_takeTape (f_taped : Int32) : Int32 × Int32 :=
  (f_taped, (0 : Int32))
def mX11_meet (f_taped : Int32) (a_tape : Nat → Int32) (guess_f_met : Int32) (guess_a_rows : Nat → Int32) (a_refused : Nat → Int32) : Option (Int32 × Int32 × Int32 × (Nat → Int32) × (Nat → Int32)) :=
  xlet (mX11_takeTape f_taped) (xu fun q1_1 => fun q1_2 =>
    (mX2_meetRows q1_1 guess_f_met guess_a_rows a_tape).bind (xu fun q2_1 => xu fun q2_2 => fun q2_3 =>
      if q2_1 = true then
        some (q2_2, q1_2, q2_2, q2_3, a_refused)
      else
        xlet (mX11_refuse (5 : Int32) a_refused) (xu fun q4_1 => fun q4_2 =>
          some (q4_1, q1_2, q2_2, q2_3, q4_2))))
def mX11_sizes (v_thing : Int32) (v_k : Int32) (f_changes : Int32) (plan_f_units : Int32) (plan_a_code : Nat → Int32) (plan_a_codeFrom : Nat → Int32) (plan_a_codeLength : Nat → Int32) (yard_f_there : Int64) (yard_f_marked : Int64) (yard_f_trains : Int32) (yard_f_step : Int32) (yard_a_size : Nat → Int32) (yard_a_age : Nat → Int32) (yard_a_train : Nat → Int32) (yard_a_car : Nat → Int32) (yard_a_place : Nat → Int32) (yard_a_links : Nat → Int32) (yard_a_roots : Nat → Int32) (yard_a_cars : Nat → Int32) (yard_a_from : Nat → Int64) (mover_f_fell : Int32) (mover_f_moved : Int32) (mover_f_cost : Int32) (mover_f_futile : Bool) (mover_f_rooted : Int64) (mover_f_left : Int64) (mover_f_waits : Int32) (mover_f_chosen : Int32) (mover_f_rule : Int32) (mover_f_stays : Int32) (mover_f_stayTrain : Int32) (mover_f_onlyByCar : Bool) (mover_ahead_f_there : Int64) (mover_ahead_f_marked : Int64) (mover_ahead_f_trains : Int32) (mover_ahead_f_step : Int32) (mover_ahead_a_size : Nat → Int32) (mover_ahead_a_age : Nat → Int32) (mover_ahead_a_train : Nat → Int32) (mover_ahead_a_car : Nat → Int32) (mover_ahead_a_place : Nat → Int32) (mover_ahead_a_links : Nat → Int32) (mover_ahead_a_roots : Nat → Int32) (mover_ahead_a_cars : Nat → Int32) (mover_ahead_a_from : Nat → Int64) (mover_worth_f_top : Int32) (mover_worth_a_facts : Nat → Int32) (mover_worth_a_stack : Nat → Int32) (mover_a_waiting : Nat → Int32) (mover_a_aboard : Nat → Int64) (guess_f_met : Int32) (guess_f_units : Int32) (guess_f_thing : Int32) (guess_f_deep : Int32) (guess_f_known : Int32) (guess_a_rows : Nat → Int32) (guess_a_counts : Nat → Int32) : Int32 × Int32 × Int32 × Int32 × Bool × Int64 × Int64 × Int32 × Int32 × Int32 × Int32 × Int32 × Bool × Int64 × Int64 × Int32 × Int32 × (Nat → Int32) × (Nat → Int32) × (Nat → Int32) × (Nat → Int32) × (Nat → Int32) × (Nat → Int32) × (Nat → Int32) × (Nat → Int32) × (Nat → Int64) × Int32 × (Nat → Int32) × (Nat → Int32) × (Nat → Int32) × (Nat → Int64) × Int32 × Int32 × Int32 × Int32 × (Nat → Int32) :=
  if (mX10_isThere v_thing yard_f_there) = true then
    if v_k < (-1) then
      (((-1) : Int32), mover_f_fell, mover_f_moved, mover_f_cost, mover_f_futile, mover_f_rooted, mover_f_left, mover_f_waits, mover_f_chosen, mover_f_rule, mover_f_stays, mover_f_stayTrain, mover_f_onlyByCar, mover_ahead_f_there, mover_ahead_f_marked, mover_ahead_f_trains, mover_ahead_f_step, mover_ahead_a_size, mover_ahead_a_age, mover_ahead_a_train, mover_ahead_a_car, mover_ahead_a_place, mover_ahead_a_links, mover_ahead_a_roots, mover_ahead_a_cars, mover_ahead_a_from, mover_worth_f_top, mover_worth_a_facts, mover_worth_a_stack, mover_a_waiting, mover_a_aboard, guess_f_units, guess_f_thing, guess_f_deep, guess_f_known, guess_a_counts)
    else
      xlet (mX2_look v_thing (mX2_farthest guess_f_met guess_a_rows) f_changes guess_f_units guess_f_thing guess_f_deep guess_f_known guess_a_counts yard_f_there yard_f_marked yard_f_trains yard_f_step yard_a_size yard_a_age yard_a_train yard_a_car yard_a_place yard_a_links yard_a_roots yard_a_cars yard_a_from plan_f_units plan_a_code plan_a_codeFrom plan_a_codeLength mover_f_fell mover_f_moved mover_f_cost mover_f_futile mover_f_rooted mover_f_left mover_f_waits mover_f_chosen mover_f_rule mover_f_stays mover_f_stayTrain mover_f_onlyByCar mover_ahead_f_there mover_ahead_f_marked mover_ahead_f_trains mover_ahead_f_step mover_ahead_a_size mover_ahead_a_age mover_ahead_a_train mover_ahead_a_car mover_ahead_a_place mover_ahead_a_links mover_ahead_a_roots mover_ahead_a_cars mover_ahead_a_from mover_worth_f_top mover_worth_a_facts mover_worth_a_stack mover_a_waiting mover_a_aboard) (xu fun q3_1 => xu fun q3_2 => xu fun q3_3 => xu fun q3_4 => xu fun q3_5 => xu fun q3_6 => xu fun q3_7 => xu fun q3_8 => xu fun q3_9 => xu fun q3_10 => xu fun q3_11 => xu fun q3_12 => xu fun q3_13 => xu fun q3_14 => xu fun q3_15 => xu fun q3_16 => xu fun q3_17 => xu fun q3_18 => xu fun q3_19 => xu fun q3_20 => xu fun q3_21 => xu fun q3_22 => xu fun q3_23 => xu fun q3_24 => xu fun q3_25 => xu fun q3_26 => xu fun q3_27 => xu fun q3_28 => xu fun q3_29 => xu fun q3_30 => xu fun q3_31 => xu fun q3_32 => xu fun q3_33 => xu fun q3_34 => fun q3_35 =>
        if v_k = (-1) then
          (mX2_left guess_f_met q3_1 guess_a_rows q3_5, q3_6, q3_7, q3_8, q3_9, q3_10, q3_11, q3_12, q3_13, q3_14, q3_15, q3_16, q3_17, q3_18, q3_19, q3_20, q3_21, q3_22, q3_23, q3_24, q3_25, q3_26, q3_27, q3_28, q3_29, q3_30, q3_31, q3_32, q3_33, q3_34, q3_35, q3_1, q3_2, q3_3, q3_4, q3_5)
        else
          (mX2_nthLeft v_k guess_f_met q3_1 guess_a_rows q3_5, q3_6, q3_7, q3_8, q3_9, q3_10, q3_11, q3_12, q3_13, q3_14, q3_15, q3_16, q3_17, q3_18, q3_19, q3_20, q3_21, q3_22, q3_23, q3_24, q3_25, q3_26, q3_27, q3_28, q3_29, q3_30, q3_31, q3_32, q3_33, q3_34, q3_35, q3_1, q3_2, q3_3, q3_4, q3_5))
  else
    (((-1) : Int32), mover_f_fell, mover_f_moved, mover_f_cost, mover_f_futile, mover_f_rooted, mover_f_left, mover_f_waits, mover_f_chosen, mover_f_rule, mover_f_stays, mover_f_stayTrain, mover_f_onlyByCar, mover_ahead_f_there, mover_ahead_f_marked, mover_ahead_f_trains, mover_ahead_f_step, mover_ahead_a_size, mover_ahead_a_age, mover_ahead_a_train, mover_ahead_a_car, mover_ahead_a_place, mover_ahead_a_links, mover_ahead_a_roots, mover_ahead_a_cars, mover_ahead_a_from, mover_worth_f_top, mover_worth_a_facts, mover_worth_a_stack, mover_a_waiting, mover_a_aboard, guess_f_units, guess_f_thing, guess_f_deep, guess_f_known, guess_a_counts)
def mX11_tells (v_thing : Int32) (v_what : Int32) (f_changes : Int32) (plan_f_units : Int32) (plan_a_code : Nat → Int32) (plan_a_codeFrom : Nat → Int32) (plan_a_codeLength : Nat → Int32) (yard_f_there : Int64) (yard_f_marked : Int64) (yard_f_trains : Int32) (yard_f_step : Int32) (yard_a_size : Nat → Int32) (yard_a_age : Nat → Int32) (yard_a_train : Nat → Int32) (yard_a_car : Nat → Int32) (yard_a_place : Nat → Int32) (yard_a_links : Nat → Int32) (yard_a_roots : Nat → Int32) (yard_a_cars : Nat → Int32) (yard_a_from : Nat → Int64) (mover_f_fell : Int32) (mover_f_moved : Int32) (mover_f_cost : Int32) (mover_f_futile : Bool) (mover_f_rooted : Int64) (mover_f_left : Int64) (mover_f_waits : Int32) (mover_f_chosen : Int32) (mover_f_rule : Int32) (mover_f_stays : Int32) (mover_f_stayTrain : Int32) (mover_f_onlyByCar : Bool) (mover_ahead_f_there : Int64) (mover_ahead_f_marked : Int64) (mover_ahead_f_trains : Int32) (mover_ahead_f_step : Int32) (mover_ahead_a_size : Nat → Int32) (mover_ahead_a_age : Nat → Int32) (mover_ahead_a_train : Nat → Int32) (mover_ahead_a_car : Nat → Int32) (mover_ahead_a_place : Nat → Int32) (mover_ahead_a_links : Nat → Int32) (mover_ahead_a_roots : Nat → Int32) (mover_ahead_a_cars : Nat → Int32) (mover_ahead_a_from : Nat → Int64) (mover_worth_f_top : Int32) (mover_worth_a_facts : Nat → Int32) (mover_worth_a_stack : Nat → Int32) (mover_a_waiting : Nat → Int32) (mover_a_aboard : Nat → Int64) (guess_f_met : Int32) (guess_f_units : Int32) (guess_f_thing : Int32) (guess_f_deep : Int32) (guess_f_known : Int32) (guess_a_telling : Nat → Int32) (guess_a_rows : Nat → Int32) (guess_a_counts : Nat → Int32) (guess_a_tally : Nat → Int32) : Int32 × Int32 × Int32 × Int32 × Bool × Int64 × Int64 × Int32 × Int32 × Int32 × Int32 × Int32 × Bool × Int64 × Int64 × Int32 × Int32 × (Nat → Int32) × (Nat → Int32) × (Nat → Int32) × (Nat → Int32) × (Nat → Int32) × (Nat → Int32) × (Nat → Int32) × (Nat → Int32) × (Nat → Int64) × Int32 × (Nat → Int32) × (Nat → Int32) × (Nat → Int32) × (Nat → Int64) × Int32 × Int32 × Int32 × Int32 × (Nat → Int32) × (Nat → Int32) × (Nat → Int32) :=
  if (mX10_isThere v_thing yard_f_there) = true then
    if v_what < 0 then
      (((-1) : Int32), mover_f_fell, mover_f_moved, mover_f_cost, mover_f_futile, mover_f_rooted, mover_f_left, mover_f_waits, mover_f_chosen, mover_f_rule, mover_f_stays, mover_f_stayTrain, mover_f_onlyByCar, mover_ahead_f_there, mover_ahead_f_marked, mover_ahead_f_trains, mover_ahead_f_step, mover_ahead_a_size, mover_ahead_a_age, mover_ahead_a_train, mover_ahead_a_car, mover_ahead_a_place, mover_ahead_a_links, mover_ahead_a_roots, mover_ahead_a_cars, mover_ahead_a_from, mover_worth_f_top, mover_worth_a_facts, mover_worth_a_stack, mover_a_waiting, mover_a_aboard, guess_f_units, guess_f_thing, guess_f_deep, guess_f_known, guess_a_telling, guess_a_counts, guess_a_tally)
    else
      if 2 < v_what then
        (((-1) : Int32), mover_f_fell, mover_f_moved, mover_f_cost, mover_f_futile, mover_f_rooted, mover_f_left, mover_f_waits, mover_f_chosen, mover_f_rule, mover_f_stays, mover_f_stayTrain, mover_f_onlyByCar, mover_ahead_f_there, mover_ahead_f_marked, mover_ahead_f_trains, mover_ahead_f_step, mover_ahead_a_size, mover_ahead_a_age, mover_ahead_a_train, mover_ahead_a_car, mover_ahead_a_place, mover_ahead_a_links, mover_ahead_a_roots, mover_ahead_a_cars, mover_ahead_a_from, mover_worth_f_top, mover_worth_a_facts, mover_worth_a_stack, mover_a_waiting, mover_a_aboard, guess_f_units, guess_f_thing, guess_f_deep, guess_f_known, guess_a_telling, guess_a_counts, guess_a_tally)
      else
        xlet (mX2_look v_thing (20 : Int32) f_changes guess_f_units guess_f_thing guess_f_deep guess_f_known guess_a_counts yard_f_there yard_f_marked yard_f_trains yard_f_step yard_a_size yard_a_age yard_a_train yard_a_car yard_a_place yard_a_links yard_a_roots yard_a_cars yard_a_from plan_f_units plan_a_code plan_a_codeFrom plan_a_codeLength mover_f_fell mover_f_moved mover_f_cost mover_f_futile mover_f_rooted mover_f_left mover_f_waits mover_f_chosen mover_f_rule mover_f_stays mover_f_stayTrain mover_f_onlyByCar mover_ahead_f_there mover_ahead_f_marked mover_ahead_f_trains mover_ahead_f_step mover_ahead_a_size mover_ahead_a_age mover_ahead_a_train mover_ahead_a_car mover_ahead_a_place mover_ahead_a_links mover_ahead_a_roots mover_ahead_a_cars mover_ahead_a_from mover_worth_f_top mover_worth_a_facts mover_worth_a_stack mover_a_waiting mover_a_aboard) (xu fun q4_1 => xu fun q4_2 => xu fun q4_3 => xu fun q4_4 => xu fun q4_5 => xu fun q4_6 => xu fun q4_7 => xu fun q4_8 => xu fun q4_9 => xu fun q4_10 => xu fun q4_11 => xu fun q4_12 => xu fun q4_13 => xu fun q4_14 => xu fun q4_15 => xu fun q4_16 => xu fun q4_17 => xu fun q4_18 => xu fun q4_19 => xu fun q4_20 => xu fun q4_21 => xu fun q4_22 => xu fun q4_23 => xu fun q4_24 => xu fun q4_25 => xu fun q4_26 => xu fun q4_27 => xu fun q4_28 => xu fun q4_29 => xu fun q4_30 => xu fun q4_31 => xu fun q4_32 => xu fun q4_33 => xu fun q4_34 => fun q4_35 =>
          xlet (mX2_findTelling (999 - yard_f_step) guess_f_met q4_1 guess_a_telling guess_a_rows q4_5 guess_a_tally) (xu fun q5_1 => xu fun q5_2 => fun q5_3 =>
            if q5_1 = true then
              (mX11_at 3 v_what q5_2, q4_6, q4_7, q4_8, q4_9, q4_10, q4_11, q4_12, q4_13, q4_14, q4_15, q4_16, q4_17, q4_18, q4_19, q4_20, q4_21, q4_22, q4_23, q4_24, q4_25, q4_26, q4_27, q4_28, q4_29, q4_30, q4_31, q4_32, q4_33, q4_34, q4_35, q4_1, q4_2, q4_3, q4_4, q5_2, q4_5, q5_3)
            else
              (((-1) : Int32), q4_6, q4_7, q4_8, q4_9, q4_10, q4_11, q4_12, q4_13, q4_14, q4_15, q4_16, q4_17, q4_18, q4_19, q4_20, q4_21, q4_22, q4_23, q4_24, q4_25, q4_26, q4_27, q4_28, q4_29, q4_30, q4_31, q4_32, q4_33, q4_34, q4_35, q4_1, q4_2, q4_3, q4_4, q5_2, q4_5, q5_3)))
  else
    (((-1) : Int32), mover_f_fell, mover_f_moved, mover_f_cost, mover_f_futile, mover_f_rooted, mover_f_left, mover_f_waits, mover_f_chosen, mover_f_rule, mover_f_stays, mover_f_stayTrain, mover_f_onlyByCar, mover_ahead_f_there, mover_ahead_f_marked, mover_ahead_f_trains, mover_ahead_f_step, mover_ahead_a_size, mover_ahead_a_age, mover_ahead_a_train, mover_ahead_a_car, mover_ahead_a_place, mover_ahead_a_links, mover_ahead_a_roots, mover_ahead_a_cars, mover_ahead_a_from, mover_worth_f_top, mover_worth_a_facts, mover_worth_a_stack, mover_a_waiting, mover_a_aboard, guess_f_units, guess_f_thing, guess_f_deep, guess_f_known, guess_a_telling, guess_a_counts, guess_a_tally)
def mX11_seed (v_seed : Int32) (f_seed : Int32) (a_refused : Nat → Int32) : Bool × Int32 × (Nat → Int32) :=
  if v_seed < 0 then
    xlet (mX11_refuse (5 : Int32) a_refused) (xu fun q2_1 => fun q2_2 =>
      (false, f_seed, q2_2))
  else
    (true, v_seed, a_refused)
def mX11_kept (v_k : Int32) (v_what : Int32) (diary_f_count : Int32) (diary_a_rows : Nat → Int32) : Int32 :=
  mX1_told v_k v_what diary_f_count diary_a_rows
def mX11_image (yard_f_marked : Int64) (yard_f_step : Int32) (yard_a_size : Nat → Int32) (yard_a_age : Nat → Int32) (yard_a_train : Nat → Int32) (yard_a_car : Nat → Int32) (yard_a_place : Nat → Int32) (yard_a_links : Nat → Int32) (yard_a_roots : Nat → Int32) (picture_a_bytes : Nat → Int32) : Int32 × Int32 × (Nat → Int32) :=
  xlet (mX6_write picture_a_bytes yard_f_marked yard_f_step yard_a_size yard_a_age yard_a_train yard_a_car yard_a_place yard_a_links yard_a_roots) (xu fun q1_1 => fun q1_2 =>
    (q1_1, q1_1, q1_2))
def mX11_octet (v_k : Int32) (picture_f_count : Int32) (picture_a_bytes : Nat → Int32) : Int32 :=
  if v_k < 0 then
    ((-1) : Int32)
  else
    if v_k < picture_f_count then
      mX11_at 411 v_k picture_a_bytes
    else
      ((-1) : Int32)
def mX11_startAfresh (f_changes : Int32) : Int32 × Int32 × Int32 :=
  (f_changes + 1, (0 : Int32), (0 : Int32))
def mX11_on (f_taped : Int32) (f_changes : Int32) (a_tape : Nat → Int32) (plan_f_units : Int32) (yard_f_there : Int64) (yard_f_marked : Int64) (yard_f_trains : Int32) (yard_f_step : Int32) (yard_a_size : Nat → Int32) (yard_a_age : Nat → Int32) (yard_a_train : Nat → Int32) (yard_a_car : Nat → Int32) (yard_a_place : Nat → Int32) (yard_a_links : Nat → Int32) (yard_a_roots : Nat → Int32) (yard_a_cars : Nat → Int32) (yard_a_from : Nat → Int64) (draft_f_there : Int64) (draft_f_marked : Int64) (draft_f_trains : Int32) (draft_f_step : Int32) (draft_a_size : Nat → Int32) (draft_a_age : Nat → Int32) (draft_a_train : Nat → Int32) (draft_a_car : Nat → Int32) (draft_a_place : Nat → Int32) (draft_a_links : Nat → Int32) (draft_a_roots : Nat → Int32) (draft_a_cars : Nat → Int32) (draft_a_from : Nat → Int64) (diary_f_count : Int32) (past_f_count : Int32) (a_refused : Nat → Int32) : Bool × Int32 × Int32 × Int64 × Int64 × Int32 × Int32 × (Nat → Int32) × (Nat → Int32) × (Nat → Int32) × (Nat → Int32) × (Nat → Int32) × (Nat → Int32) × (Nat → Int32) × (Nat → Int32) × (Nat → Int64) × Int64 × Int64 × Int32 × Int32 × (Nat → Int32) × (Nat → Int32) × (Nat → Int32) × (Nat → Int32) × (Nat → Int32) × (Nat → Int32) × (Nat → Int32) × (Nat → Int32) × (Nat → Int64) × Int32 × Int32 × (Nat → Int32) :=
  xlet (mX11_takeTape f_taped) (xu fun q1_1 => fun q1_2 =>
    if (mX11_hasHeap plan_f_units) = true then
      xlet (mX6_read 1600 q1_1 plan_f_units a_tape draft_a_size draft_a_age draft_a_train draft_a_car draft_a_place draft_a_links draft_a_roots draft_a_cars draft_a_from) (xu fun q3_1 => xu fun q3_2 => xu fun q3_3 => xu fun q3_4 => xu fun q3_5 => xu fun q3_6 => xu fun q3_7 => xu fun q3_8 => xu fun q3_9 => xu fun q3_10 => xu fun q3_11 => xu fun q3_12 => xu fun q3_13 => fun q3_14 =>
        if q3_1 = true then
          xlet (mX10_copy yard_a_size yard_a_age yard_a_train yard_a_car yard_a_place yard_a_links yard_a_roots yard_a_cars yard_a_from q3_2 q3_3 q3_4 q3_5 q3_6 q3_7 q3_8 q3_9 q3_10 q3_11 q3_12 q3_13 q3_14) (xu fun q5_1 => xu fun q5_2 => xu fun q5_3 => xu fun q5_4 => xu fun q5_5 => xu fun q5_6 => xu fun q5_7 => xu fun q5_8 => xu fun q5_9 => xu fun q5_10 => xu fun q5_11 => xu fun q5_12 => fun q5_13 =>
            xlet (mX11_startAfresh f_changes) (xu fun q6_1 => xu fun q6_2 => fun q6_3 =>
              (true, q1_2, q6_1, q5_1, q5_2, q5_3, q5_4, q5_5, q5_6, q5_7, q5_8, q5_9, q5_10, q5_11, q5_12, q5_13, q3_2, q3_3, q3_4, q3_5, q3_6, q3_7, q3_8, q3_9, q3_10, q3_11, q3_12, q3_13, q3_14, q6_2, q6_3, a_refused)))
        else
          xlet (mX11_refuse (5 : Int32) a_refused) (xu fun q7_1 => fun q7_2 =>
            (false, q1_2, f_changes, yard_f_there, yard_f_marked, yard_f_trains, yard_f_step, yard_a_size, yard_a_age, yard_a_train, yard_a_car, yard_a_place, yard_a_links, yard_a_roots, yard_a_cars, yard_a_from, q3_2, q3_3, q3_4, q3_5, q3_6, q3_7, q3_8, q3_9, q3_10, q3_11, q3_12, q3_13, q3_14, diary_f_count, past_f_count, q7_2)))
    else
      xlet (mX11_refuse (5 : Int32) a_refused) (xu fun q8_1 => fun q8_2 =>
        (false, q1_2, f_changes, yard_f_there, yard_f_marked, yard_f_trains, yard_f_step, yard_a_size, yard_a_age, yard_a_train, yard_a_car, yard_a_place, yard_a_links, yard_a_roots, yard_a_cars, yard_a_from, draft_f_there, draft_f_marked, draft_f_trains, draft_f_step, draft_a_size, draft_a_age, draft_a_train, draft_a_car, draft_a_place, draft_a_links, draft_a_roots, draft_a_cars, draft_a_from, diary_f_count, past_f_count, q8_2)))
def mX11_status (v_what : Int32) (a_refused : Nat → Int32) : Int32 :=
  mX11_at 6 v_what a_refused
