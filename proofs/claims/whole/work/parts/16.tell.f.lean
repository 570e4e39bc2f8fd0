def mX8_formula_54 (v_about : Int32) (plan_f_codes : Int32) (plan_a_codeFrom : Nat → Int32) (plan_a_codeLength : Nat → Int32)  (f_fault_54 : Int32) (f_place_54 : Int32) (f_now_54 : Int32) (f_kind_54 : Int32) (f_start_54 : Int32) (f_value_54 : Int32) (f_open_54 : Int32) (plan_f_codes_54 : Int32) (plan_a_code_54 : Nat → Int32) : Option (Int32 × Int32 × Int32 × Int32 × Int32 × Int32 × Int32 × Int32 × Int32 × (Nat → Int32) × (Nat → Int32) × (Nat → Int32)) :=
  xlet (mX11_put 3 v_about plan_f_codes plan_a_codeFrom) (fun q7 =>
    xlet (mX11_put 3 v_about (plan_f_codes_54 - plan_f_codes) plan_a_codeLength) (fun q8 =>
      some (f_fault_54, f_place_54, f_now_54, f_kind_54, f_start_54, f_value_54, f_open_54, v_about, plan_f_codes_54, plan_a_code_54, q7, q8)))
def mX8_formula_21 (v_about : Int32) (f_tokens : Int32) (f_now : Int32) (f_start : Int32) (f_open : Int32) (a_kinds : Nat → Int32) (a_starts : Nat → Int32) (a_values : Nat → Int32) (plan_f_codes : Int32) (plan_a_code : Nat → Int32) (plan_a_codeFrom : Nat → Int32) (plan_a_codeLength : Nat → Int32)  (f_fault_21 : Int32) (f_place_21 : Int32) : Option (Int32 × Int32 × Int32 × Int32 × Int32 × Int32 × Int32 × Int32 × Int32 × (Nat → Int32) × (Nat → Int32) × (Nat → Int32)) :=
  xlet (mX8_next f_tokens f_now f_start a_kinds a_starts a_values) (xu fun q3_1 => xu fun q3_2 => xu fun q3_3 => fun q3_4 =>
    if v_about = 2 then
      (mtX8_sum f_fault_21 f_place_21 f_tokens q3_1 q3_2 q3_3 q3_4 f_open v_about a_kinds a_starts a_values plan_f_codes plan_a_code).bind (xu fun q5_1 => xu fun q5_2 => xu fun q5_3 => xu fun q5_4 => xu fun q5_5 => xu fun q5_6 => xu fun q5_7 => xu fun q5_8 => fun q5_9 =>
        mX8_formula_54 v_about plan_f_codes plan_a_codeFrom plan_a_codeLength q5_1 q5_2 q5_3 q5_4 q5_5 q5_6 q5_7 q5_8 q5_9)
    else
      (mtX8_test f_fault_21 f_place_21 f_tokens q3_1 q3_2 q3_3 q3_4 f_open v_about a_kinds a_starts a_values plan_f_codes plan_a_code).bind (xu fun q6_1 => xu fun q6_2 => xu fun q6_3 => xu fun q6_4 => xu fun q6_5 => xu fun q6_6 => xu fun q6_7 => xu fun q6_8 => fun q6_9 =>
        mX8_formula_54 v_about plan_f_codes plan_a_codeFrom plan_a_codeLength q6_1 q6_2 q6_3 q6_4 q6_5 q6_6 q6_7 q6_8 q6_9))
def mX8_formula (v_about : Int32) (v_from : Int32) (f_fault : Int32) (f_place : Int32) (f_tokens : Int32) (f_now : Int32) (f_start : Int32) (f_open : Int32) (a_kinds : Nat → Int32) (a_starts : Nat → Int32) (a_values : Nat → Int32) (plan_f_codes : Int32) (plan_a_code : Nat → Int32) (plan_a_codeFrom : Nat → Int32) (plan_a_codeLength : Nat → Int32) : Option (Int32 × Int32 × Int32 × Int32 × Int32 × Int32 × Int32 × Int32 × Int32 × (Nat → Int32) × (Nat → Int32) × (Nat → Int32)) :=
  if 0 < (mX11_at 3 v_about plan_a_codeLength) then
    xlet (mX8_fail (6 : Int32) v_from f_fault f_place) (xu fun q2_1 => fun q2_2 =>
      mX8_formula_21 v_about f_tokens f_now f_start f_open a_kinds a_starts a_values plan_f_codes plan_a_code plan_a_codeFrom plan_a_codeLength q2_1 q2_2)
  else
    mX8_formula_21 v_about f_tokens f_now f_start f_open a_kinds a_starts a_values plan_f_codes plan_a_code plan_a_codeFrom plan_a_codeLength f_fault f_place
def mX8_number_35 (f_fault : Int32) (f_place : Int32) (f_tokens : Int32) (f_now : Int32) (f_start : Int32) (f_value : Int32) (a_kinds : Nat → Int32) (a_starts : Nat → Int32) (a_values : Nat → Int32)   : Int32 × Int32 × Int32 × Int32 × Int32 × Int32 × Int32 :=
  xlet (mX8_fail (4 : Int32) f_start f_fault f_place) (xu fun q7_1 => fun q7_2 =>
    xlet (mX8_next f_tokens f_now f_start a_kinds a_starts a_values) (xu fun q8_1 => xu fun q8_2 => xu fun q8_3 => fun q8_4 =>
      (f_value, q7_1, q7_2, q8_1, q8_2, q8_3, q8_4)))
def mX8_number (v_low : Int32) (v_high : Int32) (f_fault : Int32) (f_place : Int32) (f_tokens : Int32) (f_now : Int32) (f_kind : Int32) (f_start : Int32) (f_value : Int32) (a_kinds : Nat → Int32) (a_starts : Nat → Int32) (a_values : Nat → Int32) : Int32 × Int32 × Int32 × Int32 × Int32 × Int32 × Int32 :=
  if f_kind = 2 then
    if f_value < v_low then
      mX8_number_35 f_fault f_place f_tokens f_now f_start f_value a_kinds a_starts a_values
    else
      if v_high < f_value then
        mX8_number_35 f_fault f_place f_tokens f_now f_start f_value a_kinds a_starts a_values
      else
        xlet (mX8_next f_tokens f_now f_start a_kinds a_starts a_values) (xu fun q4_1 => xu fun q4_2 => xu fun q4_3 => fun q4_4 =>
          (f_value, f_fault, f_place, q4_1, q4_2, q4_3, q4_4))
  else
    xlet (mX8_fail (1 : Int32) (mX8_where f_kind f_start f_value) f_fault f_place) (xu fun q5_1 => fun q5_2 =>
      xlet (mX8_next f_tokens f_now f_start a_kinds a_starts a_values) (xu fun q6_1 => xu fun q6_2 => xu fun q6_3 => fun q6_4 =>
        (f_value, q5_1, q5_2, q6_1, q6_2, q6_3, q6_4)))
def mX8_name (f_fault : Int32) (f_place : Int32) (f_kind : Int32) (f_start : Int32) (f_value : Int32) : Int32 × Int32 × Int32 :=
  if f_kind = 3 then
    (f_value, f_fault, f_place)
  else
    xlet (mX8_fail (1 : Int32) (mX8_where f_kind f_start f_value) f_fault f_place) (xu fun q2_1 => fun q2_2 =>
      (f_value, q2_1, q2_2))
def mX8_own (v_word : Int32) (f_fault : Int32) (f_place : Int32) (f_tokens : Int32) (f_now : Int32) (f_kind : Int32) (f_start : Int32) (f_value : Int32) (a_kinds : Nat → Int32) (a_starts : Nat → Int32) (a_values : Nat → Int32) : Int32 × Int32 × Int32 × Int32 × Int32 × Int32 :=
  if (mX8_ownNow f_kind f_value) = v_word then
    xlet (mX8_next f_tokens f_now f_start a_kinds a_starts a_values) (xu fun q2_1 => xu fun q2_2 => xu fun q2_3 => fun q2_4 =>
      (f_fault, f_place, q2_1, q2_2, q2_3, q2_4))
  else
    xlet (mX8_fail (1 : Int32) (mX8_where f_kind f_start f_value) f_fault f_place) (xu fun q3_1 => fun q3_2 =>
      xlet (mX8_next f_tokens f_now f_start a_kinds a_starts a_values) (xu fun q4_1 => xu fun q4_2 => xu fun q4_3 => fun q4_4 =>
        (q3_1, q3_2, q4_1, q4_2, q4_3, q4_4)))
def mX8_thingTold_133 (plan_f_things : Int32) (plan_a_begins : Nat → Int32)  (s0_133 : Int32) (f_fault_133 : Int32) (f_place_133 : Int32) (f_now_133 : Int32) (f_kind_133 : Int32) (f_start_133 : Int32) (f_value_133 : Int32) (plan_a_names_133 : Nat → Int32) (plan_a_size_133 : Nat → Int32) : Int32 × Int32 × Int32 × Int32 × Int32 × Int32 × Bool × Int32 × (Nat → Int32) × (Nat → Int32) × (Nat → Int32) :=
  xlet (mX11_put 24 plan_f_things s0_133 plan_a_begins) (fun q13 =>
    (f_fault_133, f_place_133, f_now_133, f_kind_133, f_start_133, f_value_133, false, plan_f_things + 1, plan_a_names_133, plan_a_size_133, q13))
def mX8_thingTold_49 (f_tokens : Int32) (f_trainDue : Bool) (a_kinds : Nat → Int32) (a_starts : Nat → Int32) (a_values : Nat → Int32) (plan_f_units : Int32) (plan_f_things : Int32) (plan_a_names : Nat → Int32) (plan_a_size : Nat → Int32) (plan_a_begins : Nat → Int32)  (x2_49 : Int32) (f_fault_49 : Int32) (f_place_49 : Int32) (f_now_49 : Int32) (f_kind_49 : Int32) (f_start_49 : Int32) (f_value_49 : Int32) : Int32 × Int32 × Int32 × Int32 × Int32 × Int32 × Bool × Int32 × (Nat → Int32) × (Nat → Int32) × (Nat → Int32) :=
  xlet (mX8_next f_tokens f_now_49 f_start_49 a_kinds a_starts a_values) (xu fun q7_1 => xu fun q7_2 => xu fun q7_3 => fun q7_4 =>
    xlet (mX8_own (2 : Int32) f_fault_49 f_place_49 f_tokens q7_1 q7_2 q7_3 q7_4 a_kinds a_starts a_values) (xu fun q8_1 => xu fun q8_2 => xu fun q8_3 => xu fun q8_4 => xu fun q8_5 => fun q8_6 =>
      xlet (mX8_number (1 : Int32) plan_f_units q8_1 q8_2 f_tokens q8_3 q8_4 q8_5 q8_6 a_kinds a_starts a_values) (xu fun q9_1 => xu fun q9_2 => xu fun q9_3 => xu fun q9_4 => xu fun q9_5 => xu fun q9_6 => fun q9_7 =>
        xlet (mX11_put 24 plan_f_things x2_49 plan_a_names) (fun q10 =>
          xlet (mX11_put 24 plan_f_things q9_1 plan_a_size) (fun q11 =>
            if f_trainDue = true then
              mX8_thingTold_133 plan_f_things plan_a_begins (1 : Int32) q9_2 q9_3 q9_4 q9_5 q9_6 q9_7 q10 q11
            else
              mX8_thingTold_133 plan_f_things plan_a_begins (0 : Int32) q9_2 q9_3 q9_4 q9_5 q9_6 q9_7 q10 q11)))))
def mX8_thingTold_19 (f_tokens : Int32) (f_now : Int32) (f_start : Int32) (f_trainDue : Bool) (a_kinds : Nat → Int32) (a_starts : Nat → Int32) (a_values : Nat → Int32) (plan_f_units : Int32) (plan_f_things : Int32) (plan_a_names : Nat → Int32) (plan_a_size : Nat → Int32) (plan_a_begins : Nat → Int32)  (f_fault_19 : Int32) (f_place_19 : Int32) : Int32 × Int32 × Int32 × Int32 × Int32 × Int32 × Bool × Int32 × (Nat → Int32) × (Nat → Int32) × (Nat → Int32) :=
  xlet (mX8_next f_tokens f_now f_start a_kinds a_starts a_values) (xu fun q3_1 => xu fun q3_2 => xu fun q3_3 => fun q3_4 =>
    xlet (mX8_name f_fault_19 f_place_19 q3_2 q3_3 q3_4) (xu fun q4_1 => xu fun q4_2 => fun q4_3 =>
      if (mX7_named q4_1 plan_f_things plan_a_names) = (-1) then
        mX8_thingTold_49 f_tokens f_trainDue a_kinds a_starts a_values plan_f_units plan_f_things plan_a_names plan_a_size plan_a_begins q4_1 q4_2 q4_3 q3_1 q3_2 q3_3 q3_4
      else
        xlet (mX8_fail (2 : Int32) q3_3 q4_2 q4_3) (xu fun q6_1 => fun q6_2 =>
          mX8_thingTold_49 f_tokens f_trainDue a_kinds a_starts a_values plan_f_units plan_f_things plan_a_names plan_a_size plan_a_begins q4_1 q6_1 q6_2 q3_1 q3_2 q3_3 q3_4)))
def mX8_thingTold (v_from : Int32) (f_fault : Int32) (f_place : Int32) (f_tokens : Int32) (f_now : Int32) (f_start : Int32) (f_trainDue : Bool) (a_kinds : Nat → Int32) (a_starts : Nat → Int32) (a_values : Nat → Int32) (plan_f_units : Int32) (plan_f_things : Int32) (plan_a_names : Nat → Int32) (plan_a_size : Nat → Int32) (plan_a_begins : Nat → Int32) : Int32 × Int32 × Int32 × Int32 × Int32 × Int32 × Bool × Int32 × (Nat → Int32) × (Nat → Int32) × (Nat → Int32) :=
  if plan_f_things < 24 then
    mX8_thingTold_19 f_tokens f_now f_start f_trainDue a_kinds a_starts a_values plan_f_units plan_f_things plan_a_names plan_a_size plan_a_begins f_fault f_place
  else
    xlet (mX8_fail (6 : Int32) v_from f_fault f_place) (xu fun q2_1 => fun q2_2 =>
      mX8_thingTold_19 f_tokens f_now f_start f_trainDue a_kinds a_starts a_values plan_f_units plan_f_things plan_a_names plan_a_size plan_a_begins q2_1 q2_2)
def mX8_thingNamed (f_fault : Int32) (f_place : Int32) (f_kind : Int32) (f_start : Int32) (f_value : Int32) (plan_f_things : Int32) (plan_a_names : Nat → Int32) : Int32 × Int32 × Int32 :=
  xlet (mX8_name f_fault f_place f_kind f_start f_value) (xu fun q1_1 => xu fun q1_2 => fun q1_3 =>
    if (mX7_named q1_1 plan_f_things plan_a_names) = (-1) then
      xlet (mX8_fail (3 : Int32) f_start q1_2 q1_3) (xu fun q3_1 => fun q3_2 =>
        (mX7_named q1_1 plan_f_things plan_a_names, q3_1, q3_2))
    else
      (mX7_named q1_1 plan_f_things plan_a_names, q1_2, q1_3))
def mX8_linkTold_33 (f_tokens : Int32) (a_kinds : Nat → Int32) (a_starts : Nat → Int32) (a_values : Nat → Int32) (plan_f_things : Int32) (plan_a_names : Nat → Int32) (plan_a_linked : Nat → Int32) (plan_a_links : Nat → Int32)  (x2_33 : Int32) (x3_33 : Int32) (f_fault_33 : Int32) (f_place_33 : Int32) (f_now_33 : Int32) (f_kind_33 : Int32) (f_start_33 : Int32) (f_value_33 : Int32) : Int32 × Int32 × Int32 × Int32 × Int32 × Int32 × (Nat → Int32) × (Nat → Int32) :=
  xlet (mX8_next f_tokens f_now_33 f_start_33 a_kinds a_starts a_values) (xu fun q5_1 => xu fun q5_2 => xu fun q5_3 => fun q5_4 =>
    xlet (mX8_own (5 : Int32) f_fault_33 f_place_33 f_tokens q5_1 q5_2 q5_3 q5_4 a_kinds a_starts a_values) (xu fun q6_1 => xu fun q6_2 => xu fun q6_3 => xu fun q6_4 => xu fun q6_5 => fun q6_6 =>
      xlet (mX8_thingNamed q6_1 q6_2 q6_4 q6_5 q6_6 plan_f_things plan_a_names) (xu fun q7_1 => xu fun q7_2 => fun q7_3 =>
        xlet (mX8_next f_tokens q6_3 q6_5 a_kinds a_starts a_values) (xu fun q8_1 => xu fun q8_2 => xu fun q8_3 => fun q8_4 =>
          if x2_33 < 0 then
            (q7_2, q7_3, q8_1, q8_2, q8_3, q8_4, plan_a_linked, plan_a_links)
          else
            if x3_33 < 0 then
              (q7_2, q7_3, q8_1, q8_2, q8_3, q8_4, plan_a_linked, plan_a_links)
            else
              if x3_33 < 4 then
                xlet (mX11_put 96 ((x2_33 * 4) + x3_33) q7_1 plan_a_links) (fun q12 =>
                  xlet (mX11_put 24 x2_33 (x3_33 + 1) plan_a_linked) (fun q13 =>
                    (q7_2, q7_3, q8_1, q8_2, q8_3, q8_4, q13, q12)))
              else
                (q7_2, q7_3, q8_1, q8_2, q8_3, q8_4, plan_a_linked, plan_a_links)))))
def mX8_linkTold (v_from : Int32) (f_fault : Int32) (f_place : Int32) (f_tokens : Int32) (f_now : Int32) (f_start : Int32) (a_kinds : Nat → Int32) (a_starts : Nat → Int32) (a_values : Nat → Int32) (plan_f_things : Int32) (plan_a_names : Nat → Int32) (plan_a_linked : Nat → Int32) (plan_a_links : Nat → Int32) : Int32 × Int32 × Int32 × Int32 × Int32 × Int32 × (Nat → Int32) × (Nat → Int32) :=
  xlet (mX8_next f_tokens f_now f_start a_kinds a_starts a_values) (xu fun q1_1 => xu fun q1_2 => xu fun q1_3 => fun q1_4 =>
    xlet (mX8_thingNamed f_fault f_place q1_2 q1_3 q1_4 plan_f_things plan_a_names) (xu fun q2_1 => xu fun q2_2 => fun q2_3 =>
      if (mX11_at 24 q2_1 plan_a_linked) < 4 then
        mX8_linkTold_33 f_tokens a_kinds a_starts a_values plan_f_things plan_a_names plan_a_linked plan_a_links q2_1 (mX11_at 24 q2_1 plan_a_linked) q2_2 q2_3 q1_1 q1_2 q1_3 q1_4
      else
        xlet (mX8_fail (6 : Int32) v_from q2_2 q2_3) (xu fun q4_1 => fun q4_2 =>
          mX8_linkTold_33 f_tokens a_kinds a_starts a_values plan_f_things plan_a_names plan_a_linked plan_a_links q2_1 (mX11_at 24 q2_1 plan_a_linked) q4_1 q4_2 q1_1 q1_2 q1_3 q1_4)))
def mX8_rootTold_19 (f_tokens : Int32) (f_now : Int32) (f_start : Int32) (a_kinds : Nat → Int32) (a_starts : Nat → Int32) (a_values : Nat → Int32) (plan_f_things : Int32) (plan_f_rootsTold : Int32) (plan_a_names : Nat → Int32) (plan_a_roots : Nat → Int32)  (f_fault_19 : Int32) (f_place_19 : Int32) : Int32 × Int32 × Int32 × Int32 × Int32 × Int32 × Int32 × (Nat → Int32) :=
  xlet (mX8_next f_tokens f_now f_start a_kinds a_starts a_values) (xu fun q3_1 => xu fun q3_2 => xu fun q3_3 => fun q3_4 =>
    xlet (mX8_thingNamed f_fault_19 f_place_19 q3_2 q3_3 q3_4 plan_f_things plan_a_names) (xu fun q4_1 => xu fun q4_2 => fun q4_3 =>
      xlet (mX11_put 8 plan_f_rootsTold q4_1 plan_a_roots) (fun q5 =>
        xlet (mX8_next f_tokens q3_1 q3_3 a_kinds a_starts a_values) (xu fun q6_1 => xu fun q6_2 => xu fun q6_3 => fun q6_4 =>
          (q4_2, q4_3, q6_1, q6_2, q6_3, q6_4, plan_f_rootsTold + 1, q5)))))
def mX8_rootTold (v_from : Int32) (f_fault : Int32) (f_place : Int32) (f_tokens : Int32) (f_now : Int32) (f_start : Int32) (a_kinds : Nat → Int32) (a_starts : Nat → Int32) (a_values : Nat → Int32) (plan_f_things : Int32) (plan_f_rootsTold : Int32) (plan_a_names : Nat → Int32) (plan_a_roots : Nat → Int32) : Int32 × Int32 × Int32 × Int32 × Int32 × Int32 × Int32 × (Nat → Int32) :=
  if plan_f_rootsTold < 8 then
    mX8_rootTold_19 f_tokens f_now f_start a_kinds a_starts a_values plan_f_things plan_f_rootsTold plan_a_names plan_a_roots f_fault f_place
  else
    xlet (mX8_fail (6 : Int32) v_from f_fault f_place) (xu fun q2_1 => fun q2_2 =>
      mX8_rootTold_19 f_tokens f_now f_start a_kinds a_starts a_values plan_f_things plan_f_rootsTold plan_a_names plan_a_roots q2_1 q2_2)
def mX8_statement_221 (f_tokens : Int32) (a_kinds : Nat → Int32) (a_starts : Nat → Int32) (a_values : Nat → Int32) (plan_f_statements : Int32)  (f_fault_221 : Int32) (f_place_221 : Int32) (f_now_221 : Int32) (f_kind_221 : Int32) (f_start_221 : Int32) (f_value_221 : Int32) (f_open_221 : Int32) (f_topic_221 : Int32) (f_trainDue_221 : Bool) (plan_f_units_221 : Int32) (plan_f_churn_221 : Int32) (plan_f_things_221 : Int32) (plan_f_rootsTold_221 : Int32) (plan_f_codes_221 : Int32) (plan_a_names_221 : Nat → Int32) (plan_a_size_221 : Nat → Int32) (plan_a_begins_221 : Nat → Int32) (plan_a_linked_221 : Nat → Int32) (plan_a_links_221 : Nat → Int32) (plan_a_roots_221 : Nat → Int32) (plan_a_code_221 : Nat → Int32) (plan_a_codeFrom_221 : Nat → Int32) (plan_a_codeLength_221 : Nat → Int32) : Option (Int32 × Int32 × Int32 × Int32 × Int32 × Int32 × Int32 × Int32 × Bool × Int32 × Int32 × Int32 × Int32 × Int32 × Int32 × (Nat → Int32) × (Nat → Int32) × (Nat → Int32) × (Nat → Int32) × (Nat → Int32) × (Nat → Int32) × (Nat → Int32) × (Nat → Int32) × (Nat → Int32)) :=
  xlet (mX8_sign (59 : Int32) f_fault_221 f_place_221 f_tokens f_now_221 f_kind_221 f_start_221 f_value_221 a_kinds a_starts a_values) (xu fun q39_1 => xu fun q39_2 => xu fun q39_3 => xu fun q39_4 => xu fun q39_5 => fun q39_6 =>
    if q39_1 = 0 then
      some (q39_1, q39_2, q39_3, q39_4, q39_5, q39_6, f_open_221, f_topic_221, f_trainDue_221, plan_f_units_221, plan_f_churn_221, plan_f_statements + 1, plan_f_things_221, plan_f_rootsTold_221, plan_f_codes_221, plan_a_names_221, plan_a_size_221, plan_a_begins_221, plan_a_linked_221, plan_a_links_221, plan_a_roots_221, plan_a_code_221, plan_a_codeFrom_221, plan_a_codeLength_221)
    else
      some (q39_1, q39_2, q39_3, q39_4, q39_5, q39_6, f_open_221, f_topic_221, f_trainDue_221, plan_f_units_221, plan_f_churn_221, plan_f_statements, plan_f_things_221, plan_f_rootsTold_221, plan_f_codes_221, plan_a_names_221, plan_a_size_221, plan_a_begins_221, plan_a_linked_221, plan_a_links_221, plan_a_roots_221, plan_a_code_221, plan_a_codeFrom_221, plan_a_codeLength_221))
def mX8_statement_212 (f_tokens : Int32) (f_now : Int32) (f_kind : Int32) (f_start : Int32) (f_value : Int32) (f_open : Int32) (f_topic : Int32) (f_trainDue : Bool) (a_kinds : Nat → Int32) (a_starts : Nat → Int32) (a_values : Nat → Int32) (plan_f_units : Int32) (plan_f_churn : Int32) (plan_f_statements : Int32) (plan_f_things : Int32) (plan_f_rootsTold : Int32) (plan_f_codes : Int32) (plan_a_names : Nat → Int32) (plan_a_size : Nat → Int32) (plan_a_begins : Nat → Int32) (plan_a_linked : Nat → Int32) (plan_a_links : Nat → Int32) (plan_a_roots : Nat → Int32) (plan_a_code : Nat → Int32) (plan_a_codeFrom : Nat → Int32) (plan_a_codeLength : Nat → Int32)  (f_fault_212 : Int32) (f_place_212 : Int32) : Option (Int32 × Int32 × Int32 × Int32 × Int32 × Int32 × Int32 × Int32 × Bool × Int32 × Int32 × Int32 × Int32 × Int32 × Int32 × (Nat → Int32) × (Nat → Int32) × (Nat → Int32) × (Nat → Int32) × (Nat → Int32) × (Nat → Int32) × (Nat → Int32) × (Nat → Int32) × (Nat → Int32)) :=
  xlet (mX8_fail (1 : Int32) (mX8_where f_kind f_start f_value) f_fault_212 f_place_212) (xu fun q38_1 => fun q38_2 =>
    mX8_statement_221 f_tokens a_kinds a_starts a_values plan_f_statements q38_1 q38_2 f_now f_kind f_start f_value f_open f_topic f_trainDue plan_f_units plan_f_churn plan_f_things plan_f_rootsTold plan_f_codes plan_a_names plan_a_size plan_a_begins plan_a_linked plan_a_links plan_a_roots plan_a_code plan_a_codeFrom plan_a_codeLength)
def mX8_statement_142 (f_tokens : Int32) (f_open : Int32) (f_topic : Int32) (a_kinds : Nat → Int32) (a_starts : Nat → Int32) (a_values : Nat → Int32) (plan_f_units : Int32) (plan_f_churn : Int32) (plan_f_statements : Int32) (plan_f_things : Int32) (plan_f_rootsTold : Int32) (plan_f_codes : Int32) (plan_a_names : Nat → Int32) (plan_a_size : Nat → Int32) (plan_a_begins : Nat → Int32) (plan_a_linked : Nat → Int32) (plan_a_links : Nat → Int32) (plan_a_roots : Nat → Int32) (plan_a_code : Nat → Int32) (plan_a_codeFrom : Nat → Int32) (plan_a_codeLength : Nat → Int32)  (s0_142 : Bool) (f_fault_142 : Int32) (f_place_142 : Int32) (f_now_142 : Int32) (f_kind_142 : Int32) (f_start_142 : Int32) (f_value_142 : Int32) : Option (Int32 × Int32 × Int32 × Int32 × Int32 × Int32 × Int32 × Int32 × Bool × Int32 × Int32 × Int32 × Int32 × Int32 × Int32 × (Nat → Int32) × (Nat → Int32) × (Nat → Int32) × (Nat → Int32) × (Nat → Int32) × (Nat → Int32) × (Nat → Int32) × (Nat → Int32) × (Nat → Int32)) :=
  mX8_statement_221 f_tokens a_kinds a_starts a_values plan_f_statements f_fault_142 f_place_142 f_now_142 f_kind_142 f_start_142 f_value_142 f_open f_topic s0_142 plan_f_units plan_f_churn plan_f_things plan_f_rootsTold plan_f_codes plan_a_names plan_a_size plan_a_begins plan_a_linked plan_a_links plan_a_roots plan_a_code plan_a_codeFrom plan_a_codeLength
def mX8_statement_32 (f_tokens : Int32) (f_now : Int32) (f_kind : Int32) (f_start : Int32) (f_value : Int32) (f_open : Int32) (f_topic : Int32) (f_trainDue : Bool) (a_kinds : Nat → Int32) (a_starts : Nat → Int32) (a_values : Nat → Int32) (plan_f_units : Int32) (plan_f_churn : Int32) (plan_f_statements : Int32) (plan_f_things : Int32) (plan_f_rootsTold : Int32) (plan_f_codes : Int32) (plan_a_names : Nat → Int32) (plan_a_size : Nat → Int32) (plan_a_begins : Nat → Int32) (plan_a_linked : Nat → Int32) (plan_a_links : Nat → Int32) (plan_a_roots : Nat → Int32) (plan_a_code : Nat → Int32) (plan_a_codeFrom : Nat → Int32) (plan_a_codeLength : Nat → Int32)  (f_fault_32 : Int32) (f_place_32 : Int32) : Option (Int32 × Int32 × Int32 × Int32 × Int32 × Int32 × Int32 × Int32 × Bool × Int32 × Int32 × Int32 × Int32 × Int32 × Int32 × (Nat → Int32) × (Nat → Int32) × (Nat → Int32) × (Nat → Int32) × (Nat → Int32) × (Nat → Int32) × (Nat → Int32) × (Nat → Int32) × (Nat → Int32)) :=
  if (mX8_ownNow f_kind f_value) = 0 then
    xlet (mX8_next f_tokens f_now f_start a_kinds a_starts a_values) (xu fun q5_1 => xu fun q5_2 => xu fun q5_3 => fun q5_4 =>
      xlet (mX8_number (8 : Int32) (99 : Int32) f_fault_32 f_place_32 f_tokens q5_1 q5_2 q5_3 q5_4 a_kinds a_starts a_values) (xu fun q6_1 => xu fun q6_2 => xu fun q6_3 => xu fun q6_4 => xu fun q6_5 => xu fun q6_6 => fun q6_7 =>
        mX8_statement_221 f_tokens a_kinds a_starts a_values plan_f_statements q6_2 q6_3 q6_4 q6_5 q6_6 q6_7 f_open f_topic f_trainDue q6_1 plan_f_churn plan_f_things plan_f_rootsTold plan_f_codes plan_a_names plan_a_size plan_a_begins plan_a_linked plan_a_links plan_a_roots plan_a_code plan_a_codeFrom plan_a_codeLength))
  else if (mX8_ownNow f_kind f_value) = 1 then
    xlet (mX8_thingTold f_start f_fault_32 f_place_32 f_tokens f_now f_start f_trainDue a_kinds a_starts a_values plan_f_units plan_f_things plan_a_names plan_a_size plan_a_begins) (xu fun q9_1 => xu fun q9_2 => xu fun q9_3 => xu fun q9_4 => xu fun q9_5 => xu fun q9_6 => xu fun q9_7 => xu fun q9_8 => xu fun q9_9 => xu fun q9_10 => fun q9_11 =>
      mX8_statement_221 f_tokens a_kinds a_starts a_values plan_f_statements q9_1 q9_2 q9_3 q9_4 q9_5 q9_6 f_open f_topic q9_7 plan_f_units plan_f_churn q9_8 plan_f_rootsTold plan_f_codes q9_9 q9_10 q9_11 plan_a_linked plan_a_links plan_a_roots plan_a_code plan_a_codeFrom plan_a_codeLength)
  else if (mX8_ownNow f_kind f_value) = 2 then
    mX8_statement_212 f_tokens f_now f_kind f_start f_value f_open f_topic f_trainDue a_kinds a_starts a_values plan_f_units plan_f_churn plan_f_statements plan_f_things plan_f_rootsTold plan_f_codes plan_a_names plan_a_size plan_a_begins plan_a_linked plan_a_links plan_a_roots plan_a_code plan_a_codeFrom plan_a_codeLength f_fault_32 f_place_32
  else if (mX8_ownNow f_kind f_value) = 3 then
    xlet (mX8_next f_tokens f_now f_start a_kinds a_starts a_values) (xu fun q14_1 => xu fun q14_2 => xu fun q14_3 => fun q14_4 =>
      if 0 < plan_f_things then
        mX8_statement_142 f_tokens f_open f_topic a_kinds a_starts a_values plan_f_units plan_f_churn plan_f_statements plan_f_things plan_f_rootsTold plan_f_codes plan_a_names plan_a_size plan_a_begins plan_a_linked plan_a_links plan_a_roots plan_a_code plan_a_codeFrom plan_a_codeLength true f_fault_32 f_place_32 q14_1 q14_2 q14_3 q14_4
      else
        mX8_statement_142 f_tokens f_open f_topic a_kinds a_starts a_values plan_f_units plan_f_churn plan_f_statements plan_f_things plan_f_rootsTold plan_f_codes plan_a_names plan_a_size plan_a_begins plan_a_linked plan_a_links plan_a_roots plan_a_code plan_a_codeFrom plan_a_codeLength false f_fault_32 f_place_32 q14_1 q14_2 q14_3 q14_4)
  else if (mX8_ownNow f_kind f_value) = 4 then
    xlet (mX8_linkTold f_start f_fault_32 f_place_32 f_tokens f_now f_start a_kinds a_starts a_values plan_f_things plan_a_names plan_a_linked plan_a_links) (xu fun q18_1 => xu fun q18_2 => xu fun q18_3 => xu fun q18_4 => xu fun q18_5 => xu fun q18_6 => xu fun q18_7 => fun q18_8 =>
      mX8_statement_221 f_tokens a_kinds a_starts a_values plan_f_statements q18_1 q18_2 q18_3 q18_4 q18_5 q18_6 f_open f_topic f_trainDue plan_f_units plan_f_churn plan_f_things plan_f_rootsTold plan_f_codes plan_a_names plan_a_size plan_a_begins q18_7 q18_8 plan_a_roots plan_a_code plan_a_codeFrom plan_a_codeLength)
  else if (mX8_ownNow f_kind f_value) = 5 then
    mX8_statement_212 f_tokens f_now f_kind f_start f_value f_open f_topic f_trainDue a_kinds a_starts a_values plan_f_units plan_f_churn plan_f_statements plan_f_things plan_f_rootsTold plan_f_codes plan_a_names plan_a_size plan_a_begins plan_a_linked plan_a_links plan_a_roots plan_a_code plan_a_codeFrom plan_a_codeLength f_fault_32 f_place_32
  else if (mX8_ownNow f_kind f_value) = 6 then
    xlet (mX8_rootTold f_start f_fault_32 f_place_32 f_tokens f_now f_start a_kinds a_starts a_values plan_f_things plan_f_rootsTold plan_a_names plan_a_roots) (xu fun q23_1 => xu fun q23_2 => xu fun q23_3 => xu fun q23_4 => xu fun q23_5 => xu fun q23_6 => xu fun q23_7 => fun q23_8 =>
      mX8_statement_221 f_tokens a_kinds a_starts a_values plan_f_statements q23_1 q23_2 q23_3 q23_4 q23_5 q23_6 f_open f_topic f_trainDue plan_f_units plan_f_churn plan_f_things q23_7 plan_f_codes plan_a_names plan_a_size plan_a_begins plan_a_linked plan_a_links q23_8 plan_a_code plan_a_codeFrom plan_a_codeLength)
  else if (mX8_ownNow f_kind f_value) = 7 then
    xlet (mX8_next f_tokens f_now f_start a_kinds a_starts a_values) (xu fun q26_1 => xu fun q26_2 => xu fun q26_3 => fun q26_4 =>
      xlet (mX8_number (0 : Int32) (100 : Int32) f_fault_32 f_place_32 f_tokens q26_1 q26_2 q26_3 q26_4 a_kinds a_starts a_values) (xu fun q27_1 => xu fun q27_2 => xu fun q27_3 => xu fun q27_4 => xu fun q27_5 => xu fun q27_6 => fun q27_7 =>
        mX8_statement_221 f_tokens a_kinds a_starts a_values plan_f_statements q27_2 q27_3 q27_4 q27_5 q27_6 q27_7 f_open f_topic f_trainDue plan_f_units q27_1 plan_f_things plan_f_rootsTold plan_f_codes plan_a_names plan_a_size plan_a_begins plan_a_linked plan_a_links plan_a_roots plan_a_code plan_a_codeFrom plan_a_codeLength))
  else if (mX8_ownNow f_kind f_value) = 8 then
    (mX8_formula (0 : Int32) f_start f_fault_32 f_place_32 f_tokens f_now f_start f_open a_kinds a_starts a_values plan_f_codes plan_a_code plan_a_codeFrom plan_a_codeLength).bind (xu fun q30_1 => xu fun q30_2 => xu fun q30_3 => xu fun q30_4 => xu fun q30_5 => xu fun q30_6 => xu fun q30_7 => xu fun q30_8 => xu fun q30_9 => xu fun q30_10 => xu fun q30_11 => fun q30_12 =>
      mX8_statement_221 f_tokens a_kinds a_starts a_values plan_f_statements q30_1 q30_2 q30_3 q30_4 q30_5 q30_6 q30_7 q30_8 f_trainDue plan_f_units plan_f_churn plan_f_things plan_f_rootsTold q30_9 plan_a_names plan_a_size plan_a_begins plan_a_linked plan_a_links plan_a_roots q30_10 q30_11 q30_12)
  else if (mX8_ownNow f_kind f_value) = 9 then
    (mX8_formula (1 : Int32) f_start f_fault_32 f_place_32 f_tokens f_now f_start f_open a_kinds a_starts a_values plan_f_codes plan_a_code plan_a_codeFrom plan_a_codeLength).bind (xu fun q33_1 => xu fun q33_2 => xu fun q33_3 => xu fun q33_4 => xu fun q33_5 => xu fun q33_6 => xu fun q33_7 => xu fun q33_8 => xu fun q33_9 => xu fun q33_10 => xu fun q33_11 => fun q33_12 =>
      mX8_statement_221 f_tokens a_kinds a_starts a_values plan_f_statements q33_1 q33_2 q33_3 q33_4 q33_5 q33_6 q33_7 q33_8 f_trainDue plan_f_units plan_f_churn plan_f_things plan_f_rootsTold q33_9 plan_a_names plan_a_size plan_a_begins plan_a_linked plan_a_links plan_a_roots q33_10 q33_11 q33_12)
  else if (mX8_ownNow f_kind f_value) = 10 then
    (mX8_formula (2 : Int32) f_start f_fault_32 f_place_32 f_tokens f_now f_start f_open a_kinds a_starts a_values plan_f_codes plan_a_code plan_a_codeFrom plan_a_codeLength).bind (xu fun q36_1 => xu fun q36_2 => xu fun q36_3 => xu fun q36_4 => xu fun q36_5 => xu fun q36_6 => xu fun q36_7 => xu fun q36_8 => xu fun q36_9 => xu fun q36_10 => xu fun q36_11 => fun q36_12 =>
      mX8_statement_221 f_tokens a_kinds a_starts a_values plan_f_statements q36_1 q36_2 q36_3 q36_4 q36_5 q36_6 q36_7 q36_8 f_trainDue plan_f_units plan_f_churn plan_f_things plan_f_rootsTold q36_9 plan_a_names plan_a_size plan_a_begins plan_a_linked plan_a_links plan_a_roots q36_10 q36_11 q36_12)
  else 
    mX8_statement_212 f_tokens f_now f_kind f_start f_value f_open f_topic f_trainDue a_kinds a_starts a_values plan_f_units plan_f_churn plan_f_statements plan_f_things plan_f_rootsTold plan_f_codes plan_a_names plan_a_size plan_a_begins plan_a_linked plan_a_links plan_a_roots plan_a_code plan_a_codeFrom plan_a_codeLength f_fault_32 f_place_32
def mX8_statement_20 (v_first : Bool) (f_fault : Int32) (f_place : Int32) (f_tokens : Int32) (f_now : Int32) (f_kind : Int32) (f_start : Int32) (f_value : Int32) (f_open : Int32) (f_topic : Int32) (f_trainDue : Bool) (a_kinds : Nat → Int32) (a_starts : Nat → Int32) (a_values : Nat → Int32) (plan_f_units : Int32) (plan_f_churn : Int32) (plan_f_statements : Int32) (plan_f_things : Int32) (plan_f_rootsTold : Int32) (plan_f_codes : Int32) (plan_a_names : Nat → Int32) (plan_a_size : Nat → Int32) (plan_a_begins : Nat → Int32) (plan_a_linked : Nat → Int32) (plan_a_links : Nat → Int32) (plan_a_roots : Nat → Int32) (plan_a_code : Nat → Int32) (plan_a_codeFrom : Nat → Int32) (plan_a_codeLength : Nat → Int32)  (s0_20 : Int32) : Option (Int32 × Int32 × Int32 × Int32 × Int32 × Int32 × Int32 × Int32 × Bool × Int32 × Int32 × Int32 × Int32 × Int32 × Int32 × (Nat → Int32) × (Nat → Int32) × (Nat → Int32) × (Nat → Int32) × (Nat → Int32) × (Nat → Int32) × (Nat → Int32) × (Nat → Int32) × (Nat → Int32)) :=
  if (xb v_first) = s0_20 then
    mX8_statement_32 f_tokens f_now f_kind f_start f_value f_open f_topic f_trainDue a_kinds a_starts a_values plan_f_units plan_f_churn plan_f_statements plan_f_things plan_f_rootsTold plan_f_codes plan_a_names plan_a_size plan_a_begins plan_a_linked plan_a_links plan_a_roots plan_a_code plan_a_codeFrom plan_a_codeLength f_fault f_place
  else
    xlet (mX8_fail (1 : Int32) (mX8_where f_kind f_start f_value) f_fault f_place) (xu fun q3_1 => fun q3_2 =>
      mX8_statement_32 f_tokens f_now f_kind f_start f_value f_open f_topic f_trainDue a_kinds a_starts a_values plan_f_units plan_f_churn plan_f_statements plan_f_things plan_f_rootsTold plan_f_codes plan_a_names plan_a_size plan_a_begins plan_a_linked plan_a_links plan_a_roots plan_a_code plan_a_codeFrom plan_a_codeLength q3_1 q3_2)
def mX8_statement (v_first : Bool) (f_fault : Int32) (f_place : Int32) (f_tokens : Int32) (f_now : Int32) (f_kind : Int32) (f_start : Int32) (f_value : Int32) (f_open : Int32) (f_topic : Int32) (f_trainDue : Bool) (a_kinds : Nat → Int32) (a_starts : Nat → Int32) (a_values : Nat → Int32) (plan_f_units : Int32) (plan_f_churn : Int32) (plan_f_statements : Int32) (plan_f_things : Int32) (plan_f_rootsTold : Int32) (plan_f_codes : Int32) (plan_a_names : Nat → Int32) (plan_a_size : Nat → Int32) (plan_a_begins : Nat → Int32) (plan_a_linked : Nat → Int32) (plan_a_links : Nat → Int32) (plan_a_roots : Nat → Int32) (plan_a_code : Nat → Int32) (plan_a_codeFrom : Nat → Int32) (plan_a_codeLength : Nat → Int32) : Option (Int32 × Int32 × Int32 × Int32 × Int32 × Int32 × Int32 × Int32 × Bool × Int32 × Int32 × Int32 × Int32 × Int32 × Int32 × (Nat → Int32) × (Nat → Int32) × (Nat → Int32) × (Nat → Int32) × (Nat → Int32) × (Nat → Int32) × (Nat → Int32) × (Nat → Int32) × (Nat → Int32)) :=
  if (mX8_ownNow f_kind f_value) = 0 then
    mX8_statement_20 v_first f_fault f_place f_tokens f_now f_kind f_start f_value f_open f_topic f_trainDue a_kinds a_starts a_values plan_f_units plan_f_churn plan_f_statements plan_f_things plan_f_rootsTold plan_f_codes plan_a_names plan_a_size plan_a_begins plan_a_linked plan_a_links plan_a_roots plan_a_code plan_a_codeFrom plan_a_codeLength (1 : Int32)
  else
    mX8_statement_20 v_first f_fault f_place f_tokens f_now f_kind f_start f_value f_open f_topic f_trainDue a_kinds a_starts a_values plan_f_units plan_f_churn plan_f_statements plan_f_things plan_f_rootsTold plan_f_codes plan_a_names plan_a_size plan_a_begins plan_a_linked plan_a_links plan_a_roots plan_a_code plan_a_codeFrom plan_a_codeLength (0 : Int32)
def mX8_read_102 (v_length : Int32)  (f_fault_102 : Int32) (f_place_102 : Int32) (f_tokens_102 : Int32) (f_now_102 : Int32) (f_kind_102 : Int32) (f_start_102 : Int32) (f_value_102 : Int32) (f_open_102 : Int32) (f_topic_102 : Int32) (f_trainDue_102 : Bool) (a_kinds_102 : Nat → Int32) (a_starts_102 : Nat → Int32) (a_values_102 : Nat → Int32) (plan_f_units_102 : Int32) (plan_f_churn_102 : Int32) (plan_f_statements_102 : Int32) (plan_f_things_102 : Int32) (plan_f_rootsTold_102 : Int32) (plan_f_codes_102 : Int32) (plan_a_names_102 : Nat → Int32) (plan_a_size_102 : Nat → Int32) (plan_a_begins_102 : Nat → Int32) (plan_a_linked_102 : Nat → Int32) (plan_a_links_102 : Nat → Int32) (plan_a_roots_102 : Nat → Int32) (plan_a_code_102 : Nat → Int32) (plan_a_codeFrom_102 : Nat → Int32) (plan_a_codeLength_102 : Nat → Int32) : Option (Bool × Int32 × Int32 × Int32 × Int32 × Int32 × Int32 × Int32 × Int32 × Int32 × Bool × (Nat → Int32) × (Nat → Int32) × (Nat → Int32) × Int32 × Int32 × Int32 × Int32 × Int32 × Int32 × (Nat → Int32) × (Nat → Int32) × (Nat → Int32) × (Nat → Int32) × (Nat → Int32) × (Nat → Int32) × (Nat → Int32) × (Nat → Int32) × (Nat → Int32)) :=
  if plan_f_statements_102 = 0 then
    xlet (mX8_fail (1 : Int32) v_length f_fault_102 f_place_102) (xu fun q12_1 => fun q12_2 =>
      if q12_1 = 0 then
        some (true, q12_1, q12_2, f_tokens_102, f_now_102, f_kind_102, f_start_102, f_value_102, f_open_102, f_topic_102, f_trainDue_102, a_kinds_102, a_starts_102, a_values_102, plan_f_units_102, plan_f_churn_102, plan_f_statements_102, plan_f_things_102, plan_f_rootsTold_102, plan_f_codes_102, plan_a_names_102, plan_a_size_102, plan_a_begins_102, plan_a_linked_102, plan_a_links_102, plan_a_roots_102, plan_a_code_102, plan_a_codeFrom_102, plan_a_codeLength_102)
      else
        some (false, q12_1, q12_2, f_tokens_102, f_now_102, f_kind_102, f_start_102, f_value_102, f_open_102, f_topic_102, f_trainDue_102, a_kinds_102, a_starts_102, a_values_102, plan_f_units_102, plan_f_churn_102, plan_f_statements_102, plan_f_things_102, plan_f_rootsTold_102, plan_f_codes_102, plan_a_names_102, plan_a_size_102, plan_a_begins_102, plan_a_linked_102, plan_a_links_102, plan_a_roots_102, plan_a_code_102, plan_a_codeFrom_102, plan_a_codeLength_102))
  else
    if f_fault_102 = 0 then
      some (true, f_fault_102, f_place_102, f_tokens_102, f_now_102, f_kind_102, f_start_102, f_value_102, f_open_102, f_topic_102, f_trainDue_102, a_kinds_102, a_starts_102, a_values_102, plan_f_units_102, plan_f_churn_102, plan_f_statements_102, plan_f_things_102, plan_f_rootsTold_102, plan_f_codes_102, plan_a_names_102, plan_a_size_102, plan_a_begins_102, plan_a_linked_102, plan_a_links_102, plan_a_roots_102, plan_a_code_102, plan_a_codeFrom_102, plan_a_codeLength_102)
    else
      some (false, f_fault_102, f_place_102, f_tokens_102, f_now_102, f_kind_102, f_start_102, f_value_102, f_open_102, f_topic_102, f_trainDue_102, a_kinds_102, a_starts_102, a_values_102, plan_f_units_102, plan_f_churn_102, plan_f_statements_102, plan_f_things_102, plan_f_rootsTold_102, plan_f_codes_102, plan_a_names_102, plan_a_size_102, plan_a_begins_102, plan_a_linked_102, plan_a_links_102, plan_a_roots_102, plan_a_code_102, plan_a_codeFrom_102, plan_a_codeLength_102)
def mX8_read_44 (v_length : Int32)  : Nat → Nat → Int32 → Int32 → Int32 → Int32 → Int32 → Int32 → Int32 → Int32 → Int32 → Bool → (Nat → Int32) → (Nat → Int32) → (Nat → Int32) → Int32 → Int32 → Int32 → Int32 → Int32 → Int32 → (Nat → Int32) → (Nat → Int32) → (Nat → Int32) → (Nat → Int32) → (Nat → Int32) → (Nat → Int32) → (Nat → Int32) → (Nat → Int32) → (Nat → Int32) → Option (Bool × Int32 × Int32 × Int32 × Int32 × Int32 × Int32 × Int32 × Int32 × Int32 × Bool × (Nat → Int32) × (Nat → Int32) × (Nat → Int32) × Int32 × Int32 × Int32 × Int32 × Int32 × Int32 × (Nat → Int32) × (Nat → Int32) × (Nat → Int32) × (Nat → Int32) × (Nat → Int32) × (Nat → Int32) × (Nat → Int32) × (Nat → Int32) × (Nat → Int32))
  | 0, i44, f_fault_44, f_place_44, f_tokens_44, f_now_44, f_kind_44, f_start_44, f_value_44, f_open_44, f_topic_44, f_trainDue_44, a_kinds_44, a_starts_44, a_values_44, plan_f_units_44, plan_f_churn_44, plan_f_statements_44, plan_f_things_44, plan_f_rootsTold_44, plan_f_codes_44, plan_a_names_44, plan_a_size_44, plan_a_begins_44, plan_a_linked_44, plan_a_links_44, plan_a_roots_44, plan_a_code_44, plan_a_codeFrom_44, plan_a_codeLength_44 => mX8_read_102 v_length f_fault_44 f_place_44 f_tokens_44 f_now_44 f_kind_44 f_start_44 f_value_44 f_open_44 f_topic_44 f_trainDue_44 a_kinds_44 a_starts_44 a_values_44 plan_f_units_44 plan_f_churn_44 plan_f_statements_44 plan_f_things_44 plan_f_rootsTold_44 plan_f_codes_44 plan_a_names_44 plan_a_size_44 plan_a_begins_44 plan_a_linked_44 plan_a_links_44 plan_a_roots_44 plan_a_code_44 plan_a_codeFrom_44 plan_a_codeLength_44
  | k44 + 1, i44, f_fault_44, f_place_44, f_tokens_44, f_now_44, f_kind_44, f_start_44, f_value_44, f_open_44, f_topic_44, f_trainDue_44, a_kinds_44, a_starts_44, a_values_44, plan_f_units_44, plan_f_churn_44, plan_f_statements_44, plan_f_things_44, plan_f_rootsTold_44, plan_f_codes_44, plan_a_names_44, plan_a_size_44, plan_a_begins_44, plan_a_linked_44, plan_a_links_44, plan_a_roots_44, plan_a_code_44, plan_a_codeFrom_44, plan_a_codeLength_44 =>
    if f_fault_44 = 0 then
      if f_kind_44 = 0 then
        mX8_read_102 v_length f_fault_44 f_place_44 f_tokens_44 f_now_44 f_kind_44 f_start_44 f_value_44 f_open_44 f_topic_44 f_trainDue_44 a_kinds_44 a_starts_44 a_values_44 plan_f_units_44 plan_f_churn_44 plan_f_statements_44 plan_f_things_44 plan_f_rootsTold_44 plan_f_codes_44 plan_a_names_44 plan_a_size_44 plan_a_begins_44 plan_a_linked_44 plan_a_links_44 plan_a_roots_44 plan_a_code_44 plan_a_codeFrom_44 plan_a_codeLength_44
      else
        if (nI i44) = 80 then
          xlet (mX8_fail (6 : Int32) f_start_44 f_fault_44 f_place_44) (xu fun q7_1 => fun q7_2 =>
            mX8_read_44 v_length k44 (i44 + 1) q7_1 q7_2 f_tokens_44 f_now_44 f_kind_44 f_start_44 f_value_44 f_open_44 f_topic_44 f_trainDue_44 a_kinds_44 a_starts_44 a_values_44 plan_f_units_44 plan_f_churn_44 plan_f_statements_44 plan_f_things_44 plan_f_rootsTold_44 plan_f_codes_44 plan_a_names_44 plan_a_size_44 plan_a_begins_44 plan_a_linked_44 plan_a_links_44 plan_a_roots_44 plan_a_code_44 plan_a_codeFrom_44 plan_a_codeLength_44)
        else
          if (nI i44) = 0 then
            (mX8_statement true f_fault_44 f_place_44 f_tokens_44 f_now_44 f_kind_44 f_start_44 f_value_44 f_open_44 f_topic_44 f_trainDue_44 a_kinds_44 a_starts_44 a_values_44 plan_f_units_44 plan_f_churn_44 plan_f_statements_44 plan_f_things_44 plan_f_rootsTold_44 plan_f_codes_44 plan_a_names_44 plan_a_size_44 plan_a_begins_44 plan_a_linked_44 plan_a_links_44 plan_a_roots_44 plan_a_code_44 plan_a_codeFrom_44 plan_a_codeLength_44).bind (xu fun q9_1 => xu fun q9_2 => xu fun q9_3 => xu fun q9_4 => xu fun q9_5 => xu fun q9_6 => xu fun q9_7 => xu fun q9_8 => xu fun q9_9 => xu fun q9_10 => xu fun q9_11 => xu fun q9_12 => xu fun q9_13 => xu fun q9_14 => xu fun q9_15 => xu fun q9_16 => xu fun q9_17 => xu fun q9_18 => xu fun q9_19 => xu fun q9_20 => xu fun q9_21 => xu fun q9_22 => xu fun q9_23 => fun q9_24 =>
              mX8_read_44 v_length k44 (i44 + 1) q9_1 q9_2 f_tokens_44 q9_3 q9_4 q9_5 q9_6 q9_7 q9_8 q9_9 a_kinds_44 a_starts_44 a_values_44 q9_10 q9_11 q9_12 q9_13 q9_14 q9_15 q9_16 q9_17 q9_18 q9_19 q9_20 q9_21 q9_22 q9_23 q9_24)
          else
            (mX8_statement false f_fault_44 f_place_44 f_tokens_44 f_now_44 f_kind_44 f_start_44 f_value_44 f_open_44 f_topic_44 f_trainDue_44 a_kinds_44 a_starts_44 a_values_44 plan_f_units_44 plan_f_churn_44 plan_f_statements_44 plan_f_things_44 plan_f_rootsTold_44 plan_f_codes_44 plan_a_names_44 plan_a_size_44 plan_a_begins_44 plan_a_linked_44 plan_a_links_44 plan_a_roots_44 plan_a_code_44 plan_a_codeFrom_44 plan_a_codeLength_44).bind (xu fun q10_1 => xu fun q10_2 => xu fun q10_3 => xu fun q10_4 => xu fun q10_5 => xu fun q10_6 => xu fun q10_7 => xu fun q10_8 => xu fun q10_9 => xu fun q10_10 => xu fun q10_11 => xu fun q10_12 => xu fun q10_13 => xu fun q10_14 => xu fun q10_15 => xu fun q10_16 => xu fun q10_17 => xu fun q10_18 => xu fun q10_19 => xu fun q10_20 => xu fun q10_21 => xu fun q10_22 => xu fun q10_23 => fun q10_24 =>
              mX8_read_44 v_length k44 (i44 + 1) q10_1 q10_2 f_tokens_44 q10_3 q10_4 q10_5 q10_6 q10_7 q10_8 q10_9 a_kinds_44 a_starts_44 a_values_44 q10_10 q10_11 q10_12 q10_13 q10_14 q10_15 q10_16 q10_17 q10_18 q10_19 q10_20 q10_21 q10_22 q10_23 q10_24)
    else
      mX8_read_102 v_length f_fault_44 f_place_44 f_tokens_44 f_now_44 f_kind_44 f_start_44 f_value_44 f_open_44 f_topic_44 f_trainDue_44 a_kinds_44 a_starts_44 a_values_44 plan_f_units_44 plan_f_churn_44 plan_f_statements_44 plan_f_things_44 plan_f_rootsTold_44 plan_f_codes_44 plan_a_names_44 plan_a_size_44 plan_a_begins_44 plan_a_linked_44 plan_a_links_44 plan_a_roots_44 plan_a_code_44 plan_a_codeFrom_44 plan_a_codeLength_44
def mX8_read (n_text : Nat) (v_length : Int32) (f_start : Int32) (f_topic : Int32) (a_kinds : Nat → Int32) (a_starts : Nat → Int32) (a_values : Nat → Int32) (plan_a_names : Nat → Int32) (plan_a_size : Nat → Int32) (plan_a_begins : Nat → Int32) (plan_a_linked : Nat → Int32) (plan_a_links : Nat → Int32) (plan_a_roots : Nat → Int32) (plan_a_code : Nat → Int32) (plan_a_codeFrom : Nat → Int32) (plan_a_codeLength : Nat → Int32) (a_text : Nat → Int32) : Option (Bool × Int32 × Int32 × Int32 × Int32 × Int32 × Int32 × Int32 × Int32 × Int32 × Bool × (Nat → Int32) × (Nat → Int32) × (Nat → Int32) × Int32 × Int32 × Int32 × Int32 × Int32 × Int32 × (Nat → Int32) × (Nat → Int32) × (Nat → Int32) × (Nat → Int32) × (Nat → Int32) × (Nat → Int32) × (Nat → Int32) × (Nat → Int32) × (Nat → Int32)) :=
  xlet (mX7_clear plan_a_begins plan_a_linked plan_a_links plan_a_roots plan_a_codeFrom plan_a_codeLength) (xu fun q1_1 => xu fun q1_2 => xu fun q1_3 => xu fun q1_4 => xu fun q1_5 => xu fun q1_6 => xu fun q1_7 => xu fun q1_8 => xu fun q1_9 => xu fun q1_10 => xu fun q1_11 => fun q1_12 =>
    xlet (mX8_cut n_text v_length a_kinds a_starts a_values a_text) (xu fun q2_1 => xu fun q2_2 => xu fun q2_3 => fun q2_4 =>
      xlet (mX8_next q2_1 ((-1) : Int32) f_start q2_2 q2_3 q2_4) (xu fun q3_1 => xu fun q3_2 => xu fun q3_3 => fun q3_4 =>
        mX8_read_44 v_length 81 0 (0 : Int32) ((-1) : Int32) q2_1 q3_1 q3_2 q3_3 q3_4 (0 : Int32) f_topic false q2_2 q2_3 q2_4 q1_1 q1_2 q1_3 q1_4 q1_5 q1_6 plan_a_names plan_a_size q1_7 q1_8 q1_9 q1_10 plan_a_code q1_11 q1_12)))
