def mX9_withoutText (v_topic : Int32) (a_facts : Nat → Int32) : Int32 :=
  if v_topic = 2 then
    mX11_at 4 (1 : Int32) a_facts
  else
    if 3 < (mX11_at 4 (2 : Int32) a_facts) then
      (1 : Int32)
    else
      (0 : Int32)
def mX9_push (v_value : Int32) (f_top : Int32) (a_stack : Nat → Int32) : Int32 × (Nat → Int32) :=
  if f_top < 128 then
    xlet (mX11_put 128 f_top v_value a_stack) (fun q2 =>
      (f_top + 1, q2))
  else
    (f_top, a_stack)
def mX9_pop (f_top : Int32) (a_stack : Nat → Int32) : Int32 × Int32 :=
  if 0 < f_top then
    (mX11_at 128 (f_top - 1) a_stack, f_top - 1)
  else
    ((0 : Int32), f_top)
def mX9_bounded (v_result : Int64) : Int32 :=
  if (1000000 : Int64) < v_result then
    (1000000 : Int32)
  else
    if v_result < ((-1000000) : Int64) then
      ((-1000000) : Int32)
    else
      v_result.toInt32
def mX9_joined (v_code : Int32) (v_a : Int32) (v_b : Int32) : Int32 :=
  if v_code = (-21) then
    v_a ||| v_b
  else if v_code = (-20) then
    v_a &&& v_b
  else if v_code = (-19) then
    if v_a = v_b then
      (1 : Int32)
    else
      (0 : Int32)
  else if v_code = (-18) then
    if v_b < v_a then
      (1 : Int32)
    else
      (0 : Int32)
  else if v_code = (-17) then
    if v_a < v_b then
      (1 : Int32)
    else
      (0 : Int32)
  else if v_code = (-16) then
    if v_b < v_a then
      v_a
    else
      v_b
  else if v_code = (-15) then
    if v_a < v_b then
      v_a
    else
      v_b
  else if v_code = (-14) then
    if v_b = 0 then
      (0 : Int32)
    else
      mJ9_floorMod_7cf53 v_a v_b
  else if v_code = (-13) then
    if v_b = 0 then
      (0 : Int32)
    else
      mJ9_floorDiv_7cf53 v_a v_b
  else if v_code = (-12) then
    mX9_bounded (v_a.toInt64 * v_b.toInt64)
  else if v_code = (-11) then
    mX9_bounded (v_a.toInt64 - v_b.toInt64)
  else if v_code = (-10) then
    mX9_bounded (v_a.toInt64 + v_b.toInt64)
  else 
    (0 : Int32)
def mX9_run_38 (v_topic : Int32) (a_facts : Nat → Int32) (plan_a_code : Nat → Int32) (plan_a_codeFrom : Nat → Int32) (plan_a_codeLength : Nat → Int32)  : Nat → Nat → Int32 → (Nat → Int32) → Int32 × Int32 × (Nat → Int32)
  | 0, i38, f_top_38, a_stack_38 => if (nI i38) < (mX11_at 3 v_topic plan_a_codeLength) then
      xlet (mX9_pop f_top_38 a_stack_38) (xu fun q22_1 => fun q22_2 =>
        (q22_1, q22_2, a_stack_38))
    else
      xlet (mX9_pop f_top_38 a_stack_38) (xu fun q23_1 => fun q23_2 =>
        (q23_1, q23_2, a_stack_38))
  | k38 + 1, i38, f_top_38, a_stack_38 =>
    if (nI i38) < (mX11_at 3 v_topic plan_a_codeLength) then
      if (mX11_at 1600 ((mX11_at 3 v_topic plan_a_codeFrom) + (nI i38)) plan_a_code) < 0 then
        if (-5) < (mX11_at 1600 ((mX11_at 3 v_topic plan_a_codeFrom) + (nI i38)) plan_a_code) then
          xlet (mX9_push (mX11_at 4 ((-1) - (mX11_at 1600 ((mX11_at 3 v_topic plan_a_codeFrom) + (nI i38)) plan_a_code)) a_facts) f_top_38 a_stack_38) (xu fun q5_1 => fun q5_2 =>
            mX9_run_38 v_topic a_facts plan_a_code plan_a_codeFrom plan_a_codeLength k38 (i38 + 1) q5_1 q5_2)
        else
          if (mX11_at 1600 ((mX11_at 3 v_topic plan_a_codeFrom) + (nI i38)) plan_a_code) = (-22) then
            xlet (mX9_pop f_top_38 a_stack_38) (xu fun q7_1 => fun q7_2 =>
              xlet (mX9_push (1 - q7_1) q7_2 a_stack_38) (xu fun q8_1 => fun q8_2 =>
                mX9_run_38 v_topic a_facts plan_a_code plan_a_codeFrom plan_a_codeLength k38 (i38 + 1) q8_1 q8_2))
          else
            if (mX11_at 1600 ((mX11_at 3 v_topic plan_a_codeFrom) + (nI i38)) plan_a_code) = (-23) then
              xlet (mX9_pop f_top_38 a_stack_38) (xu fun q10_1 => fun q10_2 =>
                xlet (mX9_pop q10_2 a_stack_38) (xu fun q11_1 => fun q11_2 =>
                  xlet (mX9_pop q11_2 a_stack_38) (xu fun q12_1 => fun q12_2 =>
                    if q12_1 = 0 then
                      xlet (mX9_push q10_1 q12_2 a_stack_38) (xu fun q14_1 => fun q14_2 =>
                        mX9_run_38 v_topic a_facts plan_a_code plan_a_codeFrom plan_a_codeLength k38 (i38 + 1) q14_1 q14_2)
                    else
                      xlet (mX9_push q11_1 q12_2 a_stack_38) (xu fun q15_1 => fun q15_2 =>
                        mX9_run_38 v_topic a_facts plan_a_code plan_a_codeFrom plan_a_codeLength k38 (i38 + 1) q15_1 q15_2))))
            else
              xlet (mX9_pop f_top_38 a_stack_38) (xu fun q16_1 => fun q16_2 =>
                xlet (mX9_pop q16_2 a_stack_38) (xu fun q17_1 => fun q17_2 =>
                  xlet (mX9_push (mX9_joined (mX11_at 1600 ((mX11_at 3 v_topic plan_a_codeFrom) + (nI i38)) plan_a_code) q17_1 q16_1) q17_2 a_stack_38) (xu fun q18_1 => fun q18_2 =>
                    mX9_run_38 v_topic a_facts plan_a_code plan_a_codeFrom plan_a_codeLength k38 (i38 + 1) q18_1 q18_2)))
      else
        xlet (mX9_push (mX11_at 1600 ((mX11_at 3 v_topic plan_a_codeFrom) + (nI i38)) plan_a_code) f_top_38 a_stack_38) (xu fun q19_1 => fun q19_2 =>
          mX9_run_38 v_topic a_facts plan_a_code plan_a_codeFrom plan_a_codeLength k38 (i38 + 1) q19_1 q19_2)
    else
      xlet (mX9_pop f_top_38 a_stack_38) (xu fun q20_1 => fun q20_2 =>
        (q20_1, q20_2, a_stack_38))
def mX9_run (v_topic : Int32) (f_top : Int32) (a_facts : Nat → Int32) (a_stack : Nat → Int32) (plan_a_code : Nat → Int32) (plan_a_codeFrom : Nat → Int32) (plan_a_codeLength : Nat → Int32) : Int32 × Int32 × (Nat → Int32) :=
  if 0 < (mX11_at 3 v_topic plan_a_codeLength) then
    mX9_run_38 v_topic a_facts plan_a_code plan_a_codeFrom plan_a_codeLength 1600 0 (0 : Int32) a_stack
  else
    (mX9_withoutText v_topic a_facts, f_top, a_stack)
def mX3_gather_38 (y_a_size : Nat → Int32) (y_a_train : Nat → Int32) (y_a_car : Nat → Int32) (y_a_place : Nat → Int32) (y_a_roots : Nat → Int32)  : Nat → Nat → Int64 → Int32 → (Nat → Int32) → (Nat → Int64) → Int64 × Int64 × Int32 × Int32 × Bool × (Nat → Int32) × (Nat → Int64)
  | 0, i38, f_left_38, f_waits_38, a_waiting_38, a_aboard_38 => (mX10_rooted y_a_roots, f_left_38, f_waits_38, (0 : Int32), true, a_waiting_38, a_aboard_38)
  | k38 + 1, i38, f_left_38, f_waits_38, a_waiting_38, a_aboard_38 =>
    if 0 < (y_a_size (nI i38).toNatClampNeg) then
      xlet (mX11_putMask 42 (y_a_train (nI i38).toNatClampNeg) ((mX11_maskAt 42 (y_a_train (nI i38).toNatClampNeg) a_aboard_38) ||| (mX11_bit (nI i38))) a_aboard_38) (fun q3 =>
        if (y_a_train (nI i38).toNatClampNeg) = 0 then
          if (y_a_car (nI i38).toNatClampNeg) = 0 then
            xlet (mX11_put 40 (y_a_place (nI i38).toNatClampNeg) (nI i38) a_waiting_38) (fun q6 =>
              mX3_gather_38 y_a_size y_a_train y_a_car y_a_place y_a_roots k38 (i38 + 1) (f_left_38 ||| (mX11_bit (nI i38))) (f_waits_38 + 1) q6 q3)
          else
            mX3_gather_38 y_a_size y_a_train y_a_car y_a_place y_a_roots k38 (i38 + 1) f_left_38 f_waits_38 a_waiting_38 q3
        else
          mX3_gather_38 y_a_size y_a_train y_a_car y_a_place y_a_roots k38 (i38 + 1) f_left_38 f_waits_38 a_waiting_38 q3)
    else
      mX3_gather_38 y_a_size y_a_train y_a_car y_a_place y_a_roots k38 (i38 + 1) f_left_38 f_waits_38 a_waiting_38 a_aboard_38
def mX3_gather (a_waiting : Nat → Int32) (a_aboard : Nat → Int64) (y_a_size : Nat → Int32) (y_a_train : Nat → Int32) (y_a_car : Nat → Int32) (y_a_place : Nat → Int32) (y_a_roots : Nat → Int32) : Int64 × Int64 × Int32 × Int32 × Bool × (Nat → Int32) × (Nat → Int64) :=
  xlet (mJ7_fill_d0a16 42 (0 : Int64) a_aboard) (fun q1 =>
    mX3_gather_38 y_a_size y_a_train y_a_car y_a_place y_a_roots 40 0 (0 : Int64) (0 : Int32) a_waiting q1)
def mX3_firstTrainIsWanted_4 (f_rooted : Int64) (a_aboard : Nat → Int64) (y_a_from : Nat → Int64)  : Nat → Nat → Bool → Bool
  | 0, i4, x2_4 => x2_4
  | k4 + 1, i4, x2_4 =>
    if x2_4 = true then
      x2_4
    else
      if (mX11_in (a_aboard (0 : Int32).toNatClampNeg) (nI i4)) = true then
        if (mX10_isReferredTo (nI i4) f_rooted (a_aboard (0 : Int32).toNatClampNeg) y_a_from) = true then
          mX3_firstTrainIsWanted_4 f_rooted a_aboard y_a_from k4 (i4 + 1) true
        else
          mX3_firstTrainIsWanted_4 f_rooted a_aboard y_a_from k4 (i4 + 1) false
      else
        mX3_firstTrainIsWanted_4 f_rooted a_aboard y_a_from k4 (i4 + 1) false
def mX3_firstTrainIsWanted (f_rooted : Int64) (a_aboard : Nat → Int64) (y_a_from : Nat → Int64) : Bool :=
  mX3_firstTrainIsWanted_4 f_rooted a_aboard y_a_from 40 0 false
def mX3_firstBy_77 (v_r : Int32) (f_waits : Int32) (a_waiting : Nat → Int32) (y_a_from : Nat → Int64)  : Nat → Nat → Int64 → Int64 → Int32
  | 0, i77, x3_77, x5_77 => if (nI i77) < f_waits then
      ((-1) : Int32)
    else
      ((-1) : Int32)
  | k77 + 1, i77, x3_77, x5_77 =>
    if (nI i77) < f_waits then
      if x3_77 = (0 : Int64) then
        ((-1) : Int32)
      else
        if (mX11_in x3_77 (a_waiting (nI i77).toNatClampNeg)) = true then
          if 2 < v_r then
            if ((mX11_maskAt 40 (a_waiting (nI i77).toNatClampNeg) y_a_from) &&& x5_77) = (0 : Int64) then
              mX3_firstBy_77 v_r f_waits a_waiting y_a_from k77 (i77 + 1) x3_77 x5_77
            else
              a_waiting (nI i77).toNatClampNeg
          else
            a_waiting (nI i77).toNatClampNeg
        else
          mX3_firstBy_77 v_r f_waits a_waiting y_a_from k77 (i77 + 1) x3_77 x5_77
    else
      ((-1) : Int32)
def mX3_firstBy_38 (v_r : Int32) (f_left : Int64) (f_waits : Int32) (a_waiting : Nat → Int32) (a_aboard : Nat → Int64) (y_a_from : Nat → Int64)  (s0_38 : Int64) : Int32 :=
  if v_r = 3 then
    mX3_firstBy_77 v_r f_waits a_waiting y_a_from 40 0 s0_38 ((a_aboard (0 : Int32).toNatClampNeg) ^^^ (-1))
  else
    mX3_firstBy_77 v_r f_waits a_waiting y_a_from 40 0 s0_38 ((a_aboard (0 : Int32).toNatClampNeg) &&& (f_left ^^^ (-1)))
def mX3_firstBy (v_r : Int32) (f_rooted : Int64) (f_left : Int64) (f_waits : Int32) (a_waiting : Nat → Int32) (a_aboard : Nat → Int64) (y_f_marked : Int64) (y_a_from : Nat → Int64) : Int32 :=
  if v_r = 1 then
    mX3_firstBy_38 v_r f_left f_waits a_waiting a_aboard y_a_from (f_left &&& f_rooted)
  else
    if v_r = 2 then
      mX3_firstBy_38 v_r f_left f_waits a_waiting a_aboard y_a_from (f_left &&& y_f_marked)
    else
      mX3_firstBy_38 v_r f_left f_waits a_waiting a_aboard y_a_from f_left
def mX3_choose_7 (f_rooted : Int64) (f_left : Int64) (f_waits : Int32) (a_waiting : Nat → Int32) (a_aboard : Nat → Int64) (y_f_marked : Int64) (y_a_from : Nat → Int64)  : Nat → Nat → Int32 → Int32 → Bool × Int32 × Int32
  | 0, i7, f_chosen_7, f_rule_7 => if f_chosen_7 = (-1) then
      (false, f_chosen_7, f_rule_7)
    else
      (true, f_chosen_7, f_rule_7)
  | k7 + 1, i7, f_chosen_7, f_rule_7 =>
    if f_chosen_7 = (-1) then
      mX3_choose_7 f_rooted f_left f_waits a_waiting a_aboard y_f_marked y_a_from k7 (i7 + 1) (mX3_firstBy (nI i7) f_rooted f_left f_waits a_waiting a_aboard y_f_marked y_a_from) (nI i7)
    else
      (true, f_chosen_7, f_rule_7)
def mX3_choose (f_rooted : Int64) (f_left : Int64) (f_waits : Int32) (f_rule : Int32) (a_waiting : Nat → Int32) (a_aboard : Nat → Int64) (y_f_marked : Int64) (y_a_from : Nat → Int64) : Bool × Int32 × Int32 :=
  mX3_choose_7 f_rooted f_left f_waits a_waiting a_aboard y_f_marked y_a_from 4 1 ((-1) : Int32) f_rule
def mX3_target_33 (f_chosen : Int32) (a_aboard : Nat → Int64) (y_f_trains : Int32) (y_a_cars : Nat → Int32) (y_a_from : Nat → Int64)  : Nat → Nat → Int32 × Int32 × (Nat → Int32)
  | 0, i33 => if (nI i33) < y_f_trains then
      (nI i33, y_f_trains, y_a_cars)
    else
      (nI i33, y_f_trains, y_a_cars)
  | k33 + 1, i33 =>
    if (nI i33) < y_f_trains then
      if ((mX11_maskAt 40 f_chosen y_a_from) &&& (mX11_maskAt 42 (nI i33) a_aboard)) = (0 : Int64) then
        mX3_target_33 f_chosen a_aboard y_f_trains y_a_cars y_a_from k33 (i33 + 1)
      else
        (nI i33, y_f_trains, y_a_cars)
    else
      (nI i33, y_f_trains, y_a_cars)
def mX3_target (f_chosen : Int32) (f_rule : Int32) (a_aboard : Nat → Int64) (y_f_trains : Int32) (y_a_cars : Nat → Int32) (y_a_from : Nat → Int64) : Int32 × Int32 × (Nat → Int32) :=
  if f_rule = 4 then
    ((0 : Int32), y_f_trains, y_a_cars)
  else
    if f_rule = 3 then
      mX3_target_33 f_chosen a_aboard y_f_trains y_a_cars y_a_from 41 1
    else
      if y_f_trains = 1 then
        xlet (mX10_beginTrain y_f_trains y_a_cars) (xu fun q4_1 => fun q4_2 =>
          (q4_1 - 1, q4_1, q4_2))
      else
        (y_f_trains - 1, y_f_trains, y_a_cars)
def mX3_weigh (v_t : Int32) (v_car : Int64) (worth_a_facts : Nat → Int32) (y_f_step : Int32) (y_a_size : Nat → Int32) (y_a_age : Nat → Int32) (y_a_links : Nat → Int32) (y_a_roots : Nat → Int32) (y_a_from : Nat → Int64) : (Nat → Int32) :=
  xlet (mX11_put 4 (0 : Int32) y_f_step worth_a_facts) (fun q1 =>
    xlet (mX11_put 4 (1 : Int32) (mX11_at 40 v_t y_a_size) q1) (fun q2 =>
      xlet (mX11_put 4 (2 : Int32) (mX10_refs v_t v_car y_a_links y_a_roots y_a_from) q2) (fun q3 =>
        xlet (mX11_put 4 (3 : Int32) (mX11_at 40 v_t y_a_age) q3) (fun q4 =>
          q4))))
def mX3_stay_12 (v_t : Int32) (f_stays : Int32) (y_a_car : Nat → Int32)  (f_stayTrain_12 : Int32) : Int32 × Int32 × (Nat → Int32) :=
  xlet (mX11_put 40 v_t (1000 : Int32) y_a_car) (fun q2 =>
    (f_stays + 1, f_stayTrain_12, q2))
def mX3_stay (v_t : Int32) (v_to : Int32) (f_stays : Int32) (f_stayTrain : Int32) (y_a_car : Nat → Int32) : Int32 × Int32 × (Nat → Int32) :=
  if f_stays = 0 then
    mX3_stay_12 v_t f_stays y_a_car v_to
  else
    mX3_stay_12 v_t f_stays y_a_car f_stayTrain
def mX3_move_99 (f_moved : Int32) (f_left : Int64) (f_chosen : Int32) (f_rule : Int32) (f_onlyByCar : Bool) (a_aboard : Nat → Int64) (y_f_marked : Int64)  (x4_99 : Int32) (f_cost_99 : Int32) (f_stays_99 : Int32) (f_stayTrain_99 : Int32) (worth_f_top_99 : Int32) (worth_a_facts_99 : Nat → Int32) (worth_a_stack_99 : Nat → Int32) (y_f_trains_99 : Int32) (y_a_train_99 : Nat → Int32) (y_a_car_99 : Nat → Int32) (y_a_place_99 : Nat → Int32) (y_a_cars_99 : Nat → Int32) : Int32 × Int32 × Int64 × Int32 × Int32 × Bool × Int32 × (Nat → Int32) × (Nat → Int32) × (Nat → Int64) × Int64 × Int32 × (Nat → Int32) × (Nat → Int32) × (Nat → Int32) × (Nat → Int32) :=
  xlet (mX11_putMask 42 x4_99 ((mX11_maskAt 42 x4_99 (vp_updL a_aboard (0 : Int32).toNatClampNeg ((a_aboard (0 : Int32).toNatClampNeg) &&& ((mX11_bit f_chosen) ^^^ (-1))))) ||| (mX11_bit f_chosen)) (vp_updL a_aboard (0 : Int32).toNatClampNeg ((a_aboard (0 : Int32).toNatClampNeg) &&& ((mX11_bit f_chosen) ^^^ (-1))))) (fun q10 =>
    if f_onlyByCar = true then
      if f_rule = 4 then
        (f_moved + 1, f_cost_99, f_left &&& ((mX11_bit f_chosen) ^^^ (-1)), f_stays_99, f_stayTrain_99, true, worth_f_top_99, worth_a_facts_99, worth_a_stack_99, q10, y_f_marked &&& ((mX11_bit f_chosen) ^^^ (-1)), y_f_trains_99, y_a_train_99, y_a_car_99, y_a_place_99, y_a_cars_99)
      else
        (f_moved + 1, f_cost_99, f_left &&& ((mX11_bit f_chosen) ^^^ (-1)), f_stays_99, f_stayTrain_99, false, worth_f_top_99, worth_a_facts_99, worth_a_stack_99, q10, y_f_marked &&& ((mX11_bit f_chosen) ^^^ (-1)), y_f_trains_99, y_a_train_99, y_a_car_99, y_a_place_99, y_a_cars_99)
    else
      (f_moved + 1, f_cost_99, f_left &&& ((mX11_bit f_chosen) ^^^ (-1)), f_stays_99, f_stayTrain_99, false, worth_f_top_99, worth_a_facts_99, worth_a_stack_99, q10, y_f_marked &&& ((mX11_bit f_chosen) ^^^ (-1)), y_f_trains_99, y_a_train_99, y_a_car_99, y_a_place_99, y_a_cars_99))
def mX3_move_84 (f_moved : Int32) (f_cost : Int32) (f_left : Int64) (f_chosen : Int32) (f_rule : Int32) (f_stays : Int32) (f_stayTrain : Int32) (f_onlyByCar : Bool) (a_aboard : Nat → Int64) (y_f_marked : Int64) (y_a_size : Nat → Int32) (y_a_train : Nat → Int32) (y_a_car : Nat → Int32) (y_a_place : Nat → Int32) (plan_f_units : Int32)  (x4_84 : Int32) (s0_84 : Int32) (worth_f_top_84 : Int32) (worth_a_facts_84 : Nat → Int32) (worth_a_stack_84 : Nat → Int32) (y_f_trains_84 : Int32) (y_a_cars_84 : Nat → Int32) : Int32 × Int32 × Int64 × Int32 × Int32 × Bool × Int32 × (Nat → Int32) × (Nat → Int32) × (Nat → Int64) × Int64 × Int32 × (Nat → Int32) × (Nat → Int32) × (Nat → Int32) × (Nat → Int32) :=
  xlet (mX10_lay f_chosen x4_84 plan_f_units y_a_size y_a_train y_a_car y_a_place y_a_cars_84) (xu fun q9_1 => xu fun q9_2 => xu fun q9_3 => fun q9_4 =>
    mX3_move_99 f_moved f_left f_chosen f_rule f_onlyByCar a_aboard y_f_marked x4_84 (f_cost + s0_84) f_stays f_stayTrain worth_f_top_84 worth_a_facts_84 worth_a_stack_84 y_f_trains_84 q9_1 q9_2 q9_3 q9_4)
def mX3_move (f_moved : Int32) (f_cost : Int32) (f_left : Int64) (f_chosen : Int32) (f_rule : Int32) (f_stays : Int32) (f_stayTrain : Int32) (f_onlyByCar : Bool) (worth_f_top : Int32) (worth_a_facts : Nat → Int32) (worth_a_stack : Nat → Int32) (a_aboard : Nat → Int64) (y_f_marked : Int64) (y_f_trains : Int32) (y_f_step : Int32) (y_a_size : Nat → Int32) (y_a_age : Nat → Int32) (y_a_train : Nat → Int32) (y_a_car : Nat → Int32) (y_a_place : Nat → Int32) (y_a_links : Nat → Int32) (y_a_roots : Nat → Int32) (y_a_cars : Nat → Int32) (y_a_from : Nat → Int64) (plan_f_units : Int32) (plan_a_code : Nat → Int32) (plan_a_codeFrom : Nat → Int32) (plan_a_codeLength : Nat → Int32) : Int32 × Int32 × Int64 × Int32 × Int32 × Bool × Int32 × (Nat → Int32) × (Nat → Int32) × (Nat → Int64) × Int64 × Int32 × (Nat → Int32) × (Nat → Int32) × (Nat → Int32) × (Nat → Int32) :=
  xlet (mX3_target f_chosen f_rule a_aboard y_f_trains y_a_cars y_a_from) (xu fun q1_1 => xu fun q1_2 => fun q1_3 =>
    xlet (mX3_weigh f_chosen f_left worth_a_facts y_f_step y_a_size y_a_age y_a_links y_a_roots y_a_from) (fun q2 =>
      xlet (mX9_run (0 : Int32) worth_f_top q2 worth_a_stack plan_a_code plan_a_codeFrom plan_a_codeLength) (xu fun q3_1 => xu fun q3_2 => fun q3_3 =>
        if q3_1 = 0 then
          xlet (mX9_run (2 : Int32) q3_2 q2 q3_3 plan_a_code plan_a_codeFrom plan_a_codeLength) (xu fun q5_1 => xu fun q5_2 => fun q5_3 =>
            if q5_1 < 0 then
              mX3_move_84 f_moved f_cost f_left f_chosen f_rule f_stays f_stayTrain f_onlyByCar a_aboard y_f_marked y_a_size y_a_train y_a_car y_a_place plan_f_units q1_1 (0 : Int32) q5_2 q2 q5_3 q1_2 q1_3
            else
              if 99 < q5_1 then
                mX3_move_84 f_moved f_cost f_left f_chosen f_rule f_stays f_stayTrain f_onlyByCar a_aboard y_f_marked y_a_size y_a_train y_a_car y_a_place plan_f_units q1_1 (99 : Int32) q5_2 q2 q5_3 q1_2 q1_3
              else
                mX3_move_84 f_moved f_cost f_left f_chosen f_rule f_stays f_stayTrain f_onlyByCar a_aboard y_f_marked y_a_size y_a_train y_a_car y_a_place plan_f_units q1_1 q5_1 q5_2 q2 q5_3 q1_2 q1_3)
        else
          xlet (mX3_stay f_chosen q1_1 f_stays f_stayTrain y_a_car) (xu fun q8_1 => xu fun q8_2 => fun q8_3 =>
            mX3_move_99 f_moved f_left f_chosen f_rule f_onlyByCar a_aboard y_f_marked q1_1 f_cost q8_1 q8_2 q3_2 q2 q3_3 q1_2 y_a_train q8_3 y_a_place q1_3))))
def mX3_fall_3 (v_group : Int64)  : Nat → Nat → Int32 → Int64 → Int64 → (Nat → Int32) → (Nat → Int32) → (Nat → Int64) → Int32 × Int64 × Int64 × (Nat → Int32) × (Nat → Int32) × (Nat → Int64)
  | 0, i3, f_fell_3, y_f_there_3, y_f_marked_3, y_a_size_3, y_a_links_3, y_a_from_3 => (f_fell_3, y_f_there_3, y_f_marked_3, y_a_size_3, y_a_links_3, y_a_from_3)
  | k3 + 1, i3, f_fell_3, y_f_there_3, y_f_marked_3, y_a_size_3, y_a_links_3, y_a_from_3 =>
    if (mX11_in v_group (nI i3)) = true then
      xlet (mX10_drop (nI i3) y_f_there_3 y_f_marked_3 y_a_size_3 y_a_links_3 y_a_from_3) (xu fun q2_1 => xu fun q2_2 => xu fun q2_3 => xu fun q2_4 => fun q2_5 =>
        mX3_fall_3 v_group k3 (i3 + 1) (f_fell_3 + 1) q2_1 q2_2 q2_3 q2_4 q2_5)
    else
      mX3_fall_3 v_group k3 (i3 + 1) f_fell_3 y_f_there_3 y_f_marked_3 y_a_size_3 y_a_links_3 y_a_from_3
def mX3_fall (v_group : Int64) (f_fell : Int32) (y_f_there : Int64) (y_f_marked : Int64) (y_a_size : Nat → Int32) (y_a_links : Nat → Int32) (y_a_from : Nat → Int64) : Int32 × Int64 × Int64 × (Nat → Int32) × (Nat → Int32) × (Nat → Int64) :=
  mX3_fall_3 v_group 40 0 f_fell y_f_there y_f_marked y_a_size y_a_links y_a_from
def mX3_couple_39 (f_waits : Int32) (f_stayTrain : Int32) (a_waiting : Nat → Int32) (y_a_cars : Nat → Int32)  : Nat → Nat → Int32 → (Nat → Int32) → (Nat → Int32) → (Nat → Int32) → (Nat → Int32) → (Nat → Int32) × (Nat → Int32) × (Nat → Int32) × (Nat → Int32)
  | 0, i39, x3_39, y_a_train_39, y_a_car_39, y_a_place_39, y_a_cars_39 => if (nI i39) < f_waits then
      (y_a_train_39, y_a_car_39, y_a_place_39, y_a_cars_39)
    else
      (y_a_train_39, y_a_car_39, y_a_place_39, y_a_cars_39)
  | k39 + 1, i39, x3_39, y_a_train_39, y_a_car_39, y_a_place_39, y_a_cars_39 =>
    if (nI i39) < f_waits then
      if (mX11_at 40 (a_waiting (nI i39).toNatClampNeg) y_a_car_39) = 1000 then
        xlet (mX11_put 40 (a_waiting (nI i39).toNatClampNeg) f_stayTrain y_a_train_39) (fun q5 =>
          xlet (mX11_put 40 (a_waiting (nI i39).toNatClampNeg) (mX11_at 42 f_stayTrain y_a_cars) y_a_car_39) (fun q6 =>
            xlet (mX11_put 40 (a_waiting (nI i39).toNatClampNeg) x3_39 y_a_place_39) (fun q7 =>
              mX3_couple_39 f_waits f_stayTrain a_waiting y_a_cars k39 (i39 + 1) (x3_39 + 1) q5 q6 q7 y_a_cars_39)))
      else
        mX3_couple_39 f_waits f_stayTrain a_waiting y_a_cars k39 (i39 + 1) x3_39 y_a_train_39 y_a_car_39 y_a_place_39 y_a_cars_39
    else
      (y_a_train_39, y_a_car_39, y_a_place_39, y_a_cars_39)
def mX3_couple (f_waits : Int32) (f_stays : Int32) (f_stayTrain : Int32) (a_waiting : Nat → Int32) (y_a_train : Nat → Int32) (y_a_car : Nat → Int32) (y_a_place : Nat → Int32) (y_a_cars : Nat → Int32) : (Nat → Int32) × (Nat → Int32) × (Nat → Int32) × (Nat → Int32) :=
  if f_stays = 0 then
    (y_a_train, y_a_car, y_a_place, y_a_cars)
  else
    xlet (mX11_put 42 f_stayTrain ((mX11_at 42 f_stayTrain y_a_cars) + 1) y_a_cars) (fun q2 =>
      mX3_couple_39 f_waits f_stayTrain a_waiting y_a_cars 40 0 (0 : Int32) y_a_train y_a_car y_a_place q2)
def mX3_isAhead (v_a : Int32) (v_b : Int32) (y_a_car : Nat → Int32) (y_a_place : Nat → Int32) : Bool :=
  if ((mX11_at 40 v_a y_a_car) - (mX11_at 40 v_b y_a_car)) < 0 then
    true
  else
    if ((mX11_at 40 v_a y_a_car) - (mX11_at 40 v_b y_a_car)) = 0 then
      if (mX11_at 40 v_a y_a_place) < (mX11_at 40 v_b y_a_place) then
        true
      else
        false
    else
      false
def mX3_markOne_80 (y_f_marked : Int64)  (x4_80 : Int32) : Int64 :=
  y_f_marked ||| (mX11_bit x4_80)
def mX3_markOne_12 (f_rooted : Int64) (y_f_marked : Int64) (y_a_size : Nat → Int32) (y_a_train : Nat → Int32) (y_a_car : Nat → Int32) (y_a_place : Nat → Int32) (y_a_from : Nat → Int64)  : Nat → Nat → Int32 → Int64
  | 0, i12, x4_12 => mX3_markOne_80 y_f_marked x4_12
  | k12 + 1, i12, x4_12 =>
    if (y_f_marked &&& (mX10_riders (0 : Int32) y_a_size y_a_train)) = (0 : Int64) then
      if (mX11_in (mX10_riders (0 : Int32) y_a_size y_a_train) (nI i12)) = true then
        if (mX10_isReferredTo (nI i12) f_rooted (mX10_riders (0 : Int32) y_a_size y_a_train) y_a_from) = true then
          if x4_12 = (-1) then
            mX3_markOne_12 f_rooted y_f_marked y_a_size y_a_train y_a_car y_a_place y_a_from k12 (i12 + 1) (nI i12)
          else
            if (mX3_isAhead (nI i12) x4_12 y_a_car y_a_place) = true then
              mX3_markOne_12 f_rooted y_f_marked y_a_size y_a_train y_a_car y_a_place y_a_from k12 (i12 + 1) (nI i12)
            else
              mX3_markOne_12 f_rooted y_f_marked y_a_size y_a_train y_a_car y_a_place y_a_from k12 (i12 + 1) x4_12
        else
          mX3_markOne_12 f_rooted y_f_marked y_a_size y_a_train y_a_car y_a_place y_a_from k12 (i12 + 1) x4_12
      else
        mX3_markOne_12 f_rooted y_f_marked y_a_size y_a_train y_a_car y_a_place y_a_from k12 (i12 + 1) x4_12
    else
      mX3_markOne_80 y_f_marked x4_12
def mX3_markOne (f_rooted : Int64) (y_f_marked : Int64) (y_a_size : Nat → Int32) (y_a_train : Nat → Int32) (y_a_car : Nat → Int32) (y_a_place : Nat → Int32) (y_a_from : Nat → Int64) : Int64 :=
  mX3_markOne_12 f_rooted y_f_marked y_a_size y_a_train y_a_car y_a_place y_a_from 40 0 ((-1) : Int32)
def mX3_endFirstCar (f_fell : Int32) (f_futile : Bool) (f_rooted : Int64) (f_left : Int64) (f_waits : Int32) (f_stays : Int32) (f_stayTrain : Int32) (f_onlyByCar : Bool) (a_waiting : Nat → Int32) (y_f_there : Int64) (y_f_marked : Int64) (y_f_trains : Int32) (y_a_size : Nat → Int32) (y_a_train : Nat → Int32) (y_a_car : Nat → Int32) (y_a_place : Nat → Int32) (y_a_links : Nat → Int32) (y_a_cars : Nat → Int32) (y_a_from : Nat → Int64) : Int32 × Bool × Int64 × Int64 × Int32 × (Nat → Int32) × (Nat → Int32) × (Nat → Int32) × (Nat → Int32) × (Nat → Int32) × (Nat → Int32) × (Nat → Int64) :=
  xlet (mX3_fall f_left f_fell y_f_there y_f_marked y_a_size y_a_links y_a_from) (xu fun q1_1 => xu fun q1_2 => xu fun q1_3 => xu fun q1_4 => xu fun q1_5 => fun q1_6 =>
    xlet (mX3_couple f_waits f_stays f_stayTrain a_waiting y_a_train y_a_car y_a_place y_a_cars) (xu fun q2_1 => xu fun q2_2 => xu fun q2_3 => fun q2_4 =>
      xlet (mX10_dropFirstCar y_f_trains q2_1 q2_2 q2_4) (xu fun q3_1 => xu fun q3_2 => xu fun q3_3 => fun q3_4 =>
        if q1_1 = 0 then
          if f_onlyByCar = true then
            xlet (mX3_markOne f_rooted q1_3 q1_4 q3_2 q3_3 q2_3 q1_6) (fun q6 =>
              (q1_1, true, q1_2, q6, q3_1, q1_4, q3_2, q3_3, q2_3, q1_5, q3_4, q1_6))
          else
            (q1_1, f_futile, q1_2, q1_3, q3_1, q1_4, q3_2, q3_3, q2_3, q1_5, q3_4, q1_6)
        else
          (q1_1, f_futile, q1_2, q1_3, q3_1, q1_4, q3_2, q3_3, q2_3, q1_5, q3_4, q1_6))))
def mX3_step_68 (y_f_there : Int64) (y_f_step : Int32) (y_a_size : Nat → Int32) (y_a_age : Nat → Int32) (y_a_links : Nat → Int32) (y_a_from : Nat → Int64)  (f_moved_68 : Int32) (f_cost_68 : Int32) (f_rooted_68 : Int64) (f_left_68 : Int64) (f_waits_68 : Int32) (f_chosen_68 : Int32) (f_rule_68 : Int32) (f_stays_68 : Int32) (f_stayTrain_68 : Int32) (f_onlyByCar_68 : Bool) (worth_f_top_68 : Int32) (worth_a_facts_68 : Nat → Int32) (worth_a_stack_68 : Nat → Int32) (a_waiting_68 : Nat → Int32) (a_aboard_68 : Nat → Int64) (y_f_marked_68 : Int64) (y_f_trains_68 : Int32) (y_a_train_68 : Nat → Int32) (y_a_car_68 : Nat → Int32) (y_a_place_68 : Nat → Int32) (y_a_cars_68 : Nat → Int32) : Int32 × Int32 × Int32 × Bool × Int64 × Int64 × Int32 × Int32 × Int32 × Int32 × Int32 × Bool × Int32 × (Nat → Int32) × (Nat → Int32) × (Nat → Int32) × (Nat → Int64) × Int64 × Int64 × Int32 × Int32 × (Nat → Int32) × (Nat → Int32) × (Nat → Int32) × (Nat → Int32) × (Nat → Int32) × (Nat → Int32) × (Nat → Int32) × (Nat → Int64) :=
  xlet (mX3_endFirstCar (0 : Int32) false f_rooted_68 f_left_68 f_waits_68 f_stays_68 f_stayTrain_68 f_onlyByCar_68 a_waiting_68 y_f_there y_f_marked_68 y_f_trains_68 y_a_size y_a_train_68 y_a_car_68 y_a_place_68 y_a_links y_a_cars_68 y_a_from) (xu fun q11_1 => xu fun q11_2 => xu fun q11_3 => xu fun q11_4 => xu fun q11_5 => xu fun q11_6 => xu fun q11_7 => xu fun q11_8 => xu fun q11_9 => xu fun q11_10 => xu fun q11_11 => fun q11_12 =>
    xlet (mX10_pass y_f_step q11_6 y_a_age) (xu fun q12_1 => fun q12_2 =>
      (q11_1, f_moved_68, f_cost_68, q11_2, f_rooted_68, f_left_68, f_waits_68, f_chosen_68, f_rule_68, f_stays_68, f_stayTrain_68, f_onlyByCar_68, worth_f_top_68, worth_a_facts_68, worth_a_stack_68, a_waiting_68, a_aboard_68, q11_3, q11_4, q11_5, q12_1, q11_6, q12_2, q11_7, q11_8, q11_9, q11_10, q11_11, q11_12)))
def mX3_step_42 (y_f_there : Int64) (y_f_step : Int32) (y_a_size : Nat → Int32) (y_a_age : Nat → Int32) (y_a_links : Nat → Int32) (y_a_roots : Nat → Int32) (y_a_from : Nat → Int64) (plan_f_units : Int32) (plan_a_code : Nat → Int32) (plan_a_codeFrom : Nat → Int32) (plan_a_codeLength : Nat → Int32)  : Nat → Nat → Int32 → Int32 → Int64 → Int64 → Int32 → Int32 → Int32 → Int32 → Int32 → Bool → Int32 → (Nat → Int32) → (Nat → Int32) → (Nat → Int32) → (Nat → Int64) → Int64 → Int32 → (Nat → Int32) → (Nat → Int32) → (Nat → Int32) → (Nat → Int32) → Int32 × Int32 × Int32 × Bool × Int64 × Int64 × Int32 × Int32 × Int32 × Int32 × Int32 × Bool × Int32 × (Nat → Int32) × (Nat → Int32) × (Nat → Int32) × (Nat → Int64) × Int64 × Int64 × Int32 × Int32 × (Nat → Int32) × (Nat → Int32) × (Nat → Int32) × (Nat → Int32) × (Nat → Int32) × (Nat → Int32) × (Nat → Int32) × (Nat → Int64)
  | 0, i42, f_moved_42, f_cost_42, f_rooted_42, f_left_42, f_waits_42, f_chosen_42, f_rule_42, f_stays_42, f_stayTrain_42, f_onlyByCar_42, worth_f_top_42, worth_a_facts_42, worth_a_stack_42, a_waiting_42, a_aboard_42, y_f_marked_42, y_f_trains_42, y_a_train_42, y_a_car_42, y_a_place_42, y_a_cars_42 => mX3_step_68 y_f_there y_f_step y_a_size y_a_age y_a_links y_a_from f_moved_42 f_cost_42 f_rooted_42 f_left_42 f_waits_42 f_chosen_42 f_rule_42 f_stays_42 f_stayTrain_42 f_onlyByCar_42 worth_f_top_42 worth_a_facts_42 worth_a_stack_42 a_waiting_42 a_aboard_42 y_f_marked_42 y_f_trains_42 y_a_train_42 y_a_car_42 y_a_place_42 y_a_cars_42
  | k42 + 1, i42, f_moved_42, f_cost_42, f_rooted_42, f_left_42, f_waits_42, f_chosen_42, f_rule_42, f_stays_42, f_stayTrain_42, f_onlyByCar_42, worth_f_top_42, worth_a_facts_42, worth_a_stack_42, a_waiting_42, a_aboard_42, y_f_marked_42, y_f_trains_42, y_a_train_42, y_a_car_42, y_a_place_42, y_a_cars_42 =>
    xlet (mX3_choose f_rooted_42 f_left_42 f_waits_42 f_rule_42 a_waiting_42 a_aboard_42 y_f_marked_42 y_a_from) (xu fun q8_1 => xu fun q8_2 => fun q8_3 =>
      if q8_1 = true then
        xlet (mX3_move f_moved_42 f_cost_42 f_left_42 q8_2 q8_3 f_stays_42 f_stayTrain_42 f_onlyByCar_42 worth_f_top_42 worth_a_facts_42 worth_a_stack_42 a_aboard_42 y_f_marked_42 y_f_trains_42 y_f_step y_a_size y_a_age y_a_train_42 y_a_car_42 y_a_place_42 y_a_links y_a_roots y_a_cars_42 y_a_from plan_f_units plan_a_code plan_a_codeFrom plan_a_codeLength) (xu fun q10_1 => xu fun q10_2 => xu fun q10_3 => xu fun q10_4 => xu fun q10_5 => xu fun q10_6 => xu fun q10_7 => xu fun q10_8 => xu fun q10_9 => xu fun q10_10 => xu fun q10_11 => xu fun q10_12 => xu fun q10_13 => xu fun q10_14 => xu fun q10_15 => fun q10_16 =>
          mX3_step_42 y_f_there y_f_step y_a_size y_a_age y_a_links y_a_roots y_a_from plan_f_units plan_a_code plan_a_codeFrom plan_a_codeLength k42 (i42 + 1) q10_1 q10_2 f_rooted_42 q10_3 f_waits_42 q8_2 q8_3 q10_4 q10_5 q10_6 q10_7 q10_8 q10_9 a_waiting_42 q10_10 q10_11 q10_12 q10_13 q10_14 q10_15 q10_16)
      else
        mX3_step_68 y_f_there y_f_step y_a_size y_a_age y_a_links y_a_from f_moved_42 f_cost_42 f_rooted_42 f_left_42 f_waits_42 q8_2 q8_3 f_stays_42 f_stayTrain_42 f_onlyByCar_42 worth_f_top_42 worth_a_facts_42 worth_a_stack_42 a_waiting_42 a_aboard_42 y_f_marked_42 y_f_trains_42 y_a_train_42 y_a_car_42 y_a_place_42 y_a_cars_42)
def mX3_step (f_rooted : Int64) (f_left : Int64) (f_waits : Int32) (f_chosen : Int32) (f_rule : Int32) (f_stays : Int32) (f_stayTrain : Int32) (f_onlyByCar : Bool) (worth_f_top : Int32) (worth_a_facts : Nat → Int32) (worth_a_stack : Nat → Int32) (a_waiting : Nat → Int32) (a_aboard : Nat → Int64) (y_f_there : Int64) (y_f_marked : Int64) (y_f_trains : Int32) (y_f_step : Int32) (y_a_size : Nat → Int32) (y_a_age : Nat → Int32) (y_a_train : Nat → Int32) (y_a_car : Nat → Int32) (y_a_place : Nat → Int32) (y_a_links : Nat → Int32) (y_a_roots : Nat → Int32) (y_a_cars : Nat → Int32) (y_a_from : Nat → Int64) (plan_f_units : Int32) (plan_a_code : Nat → Int32) (plan_a_codeFrom : Nat → Int32) (plan_a_codeLength : Nat → Int32) : Int32 × Int32 × Int32 × Bool × Int64 × Int64 × Int32 × Int32 × Int32 × Int32 × Int32 × Bool × Int32 × (Nat → Int32) × (Nat → Int32) × (Nat → Int32) × (Nat → Int64) × Int64 × Int64 × Int32 × Int32 × (Nat → Int32) × (Nat → Int32) × (Nat → Int32) × (Nat → Int32) × (Nat → Int32) × (Nat → Int32) × (Nat → Int32) × (Nat → Int64) :=
  if 0 < y_f_trains then
    xlet (mX3_gather a_waiting a_aboard y_a_size y_a_train y_a_car y_a_place y_a_roots) (xu fun q2_1 => xu fun q2_2 => xu fun q2_3 => xu fun q2_4 => xu fun q2_5 => xu fun q2_6 => fun q2_7 =>
      if (mX3_firstTrainIsWanted q2_1 q2_7 y_a_from) = true then
        mX3_step_42 y_f_there y_f_step y_a_size y_a_age y_a_links y_a_roots y_a_from plan_f_units plan_a_code plan_a_codeFrom plan_a_codeLength 40 0 (0 : Int32) (0 : Int32) q2_1 q2_2 q2_3 f_chosen f_rule q2_4 f_stayTrain q2_5 worth_f_top worth_a_facts worth_a_stack q2_6 q2_7 y_f_marked y_f_trains y_a_train y_a_car y_a_place y_a_cars
      else
        xlet (mX3_fall (q2_7 (0 : Int32).toNatClampNeg) (0 : Int32) y_f_there y_f_marked y_a_size y_a_links y_a_from) (xu fun q4_1 => xu fun q4_2 => xu fun q4_3 => xu fun q4_4 => xu fun q4_5 => fun q4_6 =>
          xlet (mX10_dropFirstTrain y_f_trains y_a_train y_a_cars) (xu fun q5_1 => xu fun q5_2 => fun q5_3 =>
            xlet (mX10_pass y_f_step q4_4 y_a_age) (xu fun q6_1 => fun q6_2 =>
              (q4_1, (0 : Int32), (0 : Int32), false, q2_1, q2_2, q2_3, f_chosen, f_rule, q2_4, f_stayTrain, q2_5, worth_f_top, worth_a_facts, worth_a_stack, q2_6, q2_7, q4_2, q4_3, q5_1, q6_1, q4_4, q6_2, q5_2, y_a_car, y_a_place, q4_5, q5_3, q4_6)))))
  else
    xlet (mX10_pass y_f_step y_a_size y_a_age) (xu fun q7_1 => fun q7_2 =>
      ((0 : Int32), (0 : Int32), (0 : Int32), false, f_rooted, f_left, f_waits, f_chosen, f_rule, f_stays, f_stayTrain, f_onlyByCar, worth_f_top, worth_a_facts, worth_a_stack, a_waiting, a_aboard, y_f_there, y_f_marked, y_f_trains, q7_1, y_a_size, q7_2, y_a_train, y_a_car, y_a_place, y_a_links, y_a_cars, y_a_from))
def mX3_isPopular (v_t : Int32) (v_car : Int64) (worth_f_top : Int32) (worth_a_facts : Nat → Int32) (worth_a_stack : Nat → Int32) (y_f_step : Int32) (y_a_size : Nat → Int32) (y_a_age : Nat → Int32) (y_a_links : Nat → Int32) (y_a_roots : Nat → Int32) (y_a_from : Nat → Int64) (plan_a_code : Nat → Int32) (plan_a_codeFrom : Nat → Int32) (plan_a_codeLength : Nat → Int32) : Bool × Int32 × (Nat → Int32) × (Nat → Int32) :=
  xlet (mX3_weigh v_t v_car worth_a_facts y_f_step y_a_size y_a_age y_a_links y_a_roots y_a_from) (fun q1 =>
    xlet (mX9_run (0 : Int32) worth_f_top q1 worth_a_stack plan_a_code plan_a_codeFrom plan_a_codeLength) (xu fun q2_1 => xu fun q2_2 => fun q2_3 =>
      if q2_1 = 0 then
        (false, q2_2, q1, q2_3)
      else
        (true, q2_2, q1, q2_3)))
def mX3_wantsTrain (worth_f_top : Int32) (worth_a_facts : Nat → Int32) (worth_a_stack : Nat → Int32) (y_f_trains : Int32) (y_f_step : Int32) (y_a_size : Nat → Int32) (y_a_train : Nat → Int32) (y_a_cars : Nat → Int32) (plan_a_code : Nat → Int32) (plan_a_codeFrom : Nat → Int32) (plan_a_codeLength : Nat → Int32) : Bool × Int32 × (Nat → Int32) × (Nat → Int32) :=
  xlet (mX11_put 4 (0 : Int32) y_f_step worth_a_facts) (fun q1 =>
    xlet (mX11_put 4 (1 : Int32) y_f_trains q1) (fun q2 =>
      xlet (mX11_put 4 (2 : Int32) (mX11_at 42 (y_f_trains - 1) y_a_cars) q2) (fun q3 =>
        xlet (mX11_put 4 (3 : Int32) (mX10_load (mX10_riders (y_f_trains - 1) y_a_size y_a_train) y_a_size) q3) (fun q4 =>
          xlet (mX9_run (1 : Int32) worth_f_top q4 worth_a_stack plan_a_code plan_a_codeFrom plan_a_codeLength) (xu fun q5_1 => xu fun q5_2 => fun q5_3 =>
            if q5_1 = 0 then
              (false, q5_2, q4, q5_3)
            else
              (true, q5_2, q4, q5_3))))))
