def mX11_stepAndKeep (plan_f_units : Int32) (plan_a_code : Nat → Int32) (plan_a_codeFrom : Nat → Int32) (plan_a_codeLength : Nat → Int32) (yard_f_there : Int64) (yard_f_marked : Int64) (yard_f_trains : Int32) (yard_f_step : Int32) (yard_a_size : Nat → Int32) (yard_a_age : Nat → Int32) (yard_a_train : Nat → Int32) (yard_a_car : Nat → Int32) (yard_a_place : Nat → Int32) (yard_a_links : Nat → Int32) (yard_a_roots : Nat → Int32) (yard_a_cars : Nat → Int32) (yard_a_from : Nat → Int64) (mover_f_rooted : Int64) (mover_f_left : Int64) (mover_f_waits : Int32) (mover_f_chosen : Int32) (mover_f_rule : Int32) (mover_f_stays : Int32) (mover_f_stayTrain : Int32) (mover_f_onlyByCar : Bool) (mover_worth_f_top : Int32) (mover_worth_a_facts : Nat → Int32) (mover_worth_a_stack : Nat → Int32) (mover_a_waiting : Nat → Int32) (mover_a_aboard : Nat → Int64) (diary_f_count : Int32) (diary_a_rows : Nat → Int32) : Int64 × Int64 × Int32 × Int32 × (Nat → Int32) × (Nat → Int32) × (Nat → Int32) × (Nat → Int32) × (Nat → Int32) × (Nat → Int32) × (Nat → Int32) × (Nat → Int64) × Int32 × Int32 × Int32 × Bool × Int64 × Int64 × Int32 × Int32 × Int32 × Int32 × Int32 × Bool × Int32 × (Nat → Int32) × (Nat → Int32) × (Nat → Int32) × (Nat → Int64) × Int32 × (Nat → Int32) :=
  xlet (mX3_step mover_f_rooted mover_f_left mover_f_waits mover_f_chosen mover_f_rule mover_f_stays mover_f_stayTrain mover_f_onlyByCar mover_worth_f_top mover_worth_a_facts mover_worth_a_stack mover_a_waiting mover_a_aboard yard_f_there yard_f_marked yard_f_trains yard_f_step yard_a_size yard_a_age yard_a_train yard_a_car yard_a_place yard_a_links yard_a_roots yard_a_cars yard_a_from plan_f_units plan_a_code plan_a_codeFrom plan_a_codeLength) (xu fun q1_1 => xu fun q1_2 => xu fun q1_3 => xu fun q1_4 => xu fun q1_5 => xu fun q1_6 => xu fun q1_7 => xu fun q1_8 => xu fun q1_9 => xu fun q1_10 => xu fun q1_11 => xu fun q1_12 => xu fun q1_13 => xu fun q1_14 => xu fun q1_15 => xu fun q1_16 => xu fun q1_17 => xu fun q1_18 => xu fun q1_19 => xu fun q1_20 => xu fun q1_21 => xu fun q1_22 => xu fun q1_23 => xu fun q1_24 => xu fun q1_25 => xu fun q1_26 => xu fun q1_27 => xu fun q1_28 => fun q1_29 =>
    xlet (mX1_add yard_f_step q1_1 q1_2 diary_f_count diary_a_rows) (xu fun q2_1 => fun q2_2 =>
      (q1_18, q1_19, q1_20, q1_21, q1_22, q1_23, q1_24, q1_25, q1_26, q1_27, q1_28, q1_29, q1_1, q1_2, q1_3, q1_4, q1_5, q1_6, q1_7, q1_8, q1_9, q1_10, q1_11, q1_12, q1_13, q1_14, q1_15, q1_16, q1_17, q2_1, q2_2)))
def mX11_draw (v_m : Int32) (f_seed : Int32) : Int32 × Int32 :=
  if 0 < v_m then
    (((((((1103515245 : Int64) * f_seed.toInt64) + 12345) &&& 2147483647).toInt32) / 64) - ((((((1103515245 : Int64) * f_seed.toInt64) + 12345) &&& 2147483647).toInt32) / 64) / v_m * v_m, ((((1103515245 : Int64) * f_seed.toInt64) + 12345) &&& 2147483647).toInt32)
  else
    ((0 : Int32), ((((1103515245 : Int64) * f_seed.toInt64) + 12345) &&& 2147483647).toInt32)
def mX11_churnBySeed (f_seed : Int32) (plan_f_churn : Int32) (yard_f_there : Int64) (yard_a_links : Nat → Int32) (yard_a_roots : Nat → Int32) (yard_a_from : Nat → Int64) : Bool × Int32 × (Nat → Int32) × (Nat → Int64) :=
  xlet (mX11_draw (100 : Int32) f_seed) (xu fun q1_1 => fun q1_2 =>
    if q1_1 < plan_f_churn then
      if (mJ13_bitCount_95d88 (mX10_live yard_f_there yard_a_links yard_a_roots)) = 0 then
        (false, q1_2, yard_a_links, yard_a_from)
      else
        xlet (mX11_draw (mJ13_bitCount_95d88 (mX10_live yard_f_there yard_a_links yard_a_roots)) q1_2) (xu fun q4_1 => fun q4_2 =>
          xlet (mX11_draw (4 : Int32) q4_2) (xu fun q5_1 => fun q5_2 =>
            xlet (mX11_draw (mJ13_bitCount_95d88 (mX10_live yard_f_there yard_a_links yard_a_roots)) q5_2) (xu fun q6_1 => fun q6_2 =>
              xlet (mX10_point (mX11_nth (mX10_live yard_f_there yard_a_links yard_a_roots) q4_1) q5_1 (mX11_nth (mX10_live yard_f_there yard_a_links yard_a_roots) q6_1) yard_a_links yard_a_from) (xu fun q7_1 => fun q7_2 =>
                (true, q6_2, q7_1, q7_2)))))
    else
      (false, q1_2, yard_a_links, yard_a_from))
def mX11_canStep (v_n : Int32) (plan_f_units : Int32) (yard_f_step : Int32) : Bool :=
  if (mX11_hasHeap plan_f_units) = true then
    if v_n < 1 then
      false
    else
      if 60 < v_n then
        false
      else
        if 999 < (yard_f_step + v_n) then
          false
        else
          true
  else
    false
