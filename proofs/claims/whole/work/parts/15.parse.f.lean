def mX8_fact_129 (R : Nat → Int32 → Int32 → Int32 → Int32 → Int32 → Int32 → Int32 → Int32 → Int32 → Int32 → (Nat → Int32) → (Nat → Int32) → (Nat → Int32) → Int32 → (Nat → Int32) → Option (Int32 × Int32 × Int32 × Int32 × Int32 × Int32 × Int32 × Int32 × (Nat → Int32))) (f_tokens : Int32) (f_topic : Int32) (a_kinds : Nat → Int32) (a_starts : Nat → Int32) (a_values : Nat → Int32)  (x1_129 : Int32) (f_fault_129 : Int32) (f_place_129 : Int32) (f_now_129 : Int32) (f_kind_129 : Int32) (f_start_129 : Int32) (f_value_129 : Int32) (f_open_129 : Int32) (plan_f_codes_129 : Int32) (plan_a_code_129 : Nat → Int32) : Option (Int32 × Int32 × Int32 × Int32 × Int32 × Int32 × Int32 × Int32 × (Nat → Int32)) :=
  xlet (mX8_next f_tokens f_now_129 f_start_129 a_kinds a_starts a_values) (xu fun q16_1 => xu fun q16_2 => xu fun q16_3 => fun q16_4 =>
    (R 2 0 f_fault_129 f_place_129 f_tokens q16_1 q16_2 q16_3 q16_4 f_open_129 f_topic a_kinds a_starts a_values plan_f_codes_129 plan_a_code_129).bind (xu fun q17_1 => xu fun q17_2 => xu fun q17_3 => xu fun q17_4 => xu fun q17_5 => xu fun q17_6 => xu fun q17_7 => xu fun q17_8 => fun q17_9 =>
      xlet (mX7_emit x1_129 q17_8 q17_9) (xu fun q18_1 => fun q18_2 =>
        some (q17_1, q17_2, q17_3, q17_4, q17_5, q17_6, q17_7, q18_1, q18_2))))
def mX8_fact (R : Nat → Int32 → Int32 → Int32 → Int32 → Int32 → Int32 → Int32 → Int32 → Int32 → Int32 → (Nat → Int32) → (Nat → Int32) → (Nat → Int32) → Int32 → (Nat → Int32) → Option (Int32 × Int32 × Int32 × Int32 × Int32 × Int32 × Int32 × Int32 × (Nat → Int32))) (f_fault : Int32) (f_place : Int32) (f_tokens : Int32) (f_now : Int32) (f_kind : Int32) (f_start : Int32) (f_value : Int32) (f_open : Int32) (f_topic : Int32) (a_kinds : Nat → Int32) (a_starts : Nat → Int32) (a_values : Nat → Int32) (plan_f_codes : Int32) (plan_a_code : Nat → Int32) : Option (Int32 × Int32 × Int32 × Int32 × Int32 × Int32 × Int32 × Int32 × (Nat → Int32)) :=
  if f_fault = 0 then
    if (mX8_ownNow f_kind f_value) = 20 then
      xlet (mX8_openOne f_fault f_place f_tokens f_now f_start f_open a_kinds a_starts a_values) (xu fun q3_1 => xu fun q3_2 => xu fun q3_3 => xu fun q3_4 => xu fun q3_5 => xu fun q3_6 => fun q3_7 =>
        (R 0 0 q3_1 q3_2 f_tokens q3_3 q3_4 q3_5 q3_6 q3_7 f_topic a_kinds a_starts a_values plan_f_codes plan_a_code).bind (xu fun q4_1 => xu fun q4_2 => xu fun q4_3 => xu fun q4_4 => xu fun q4_5 => xu fun q4_6 => xu fun q4_7 => xu fun q4_8 => fun q4_9 =>
          xlet (mX7_emit ((-22) : Int32) q4_8 q4_9) (xu fun q5_1 => fun q5_2 =>
            some (q4_1, q4_2, q4_3, q4_4, q4_5, q4_6, q4_7 - 1, q5_1, q5_2))))
    else
      if (mX8_signNow f_kind f_value) = 91 then
        xlet (mX8_openOne f_fault f_place f_tokens f_now f_start f_open a_kinds a_starts a_values) (xu fun q7_1 => xu fun q7_2 => xu fun q7_3 => xu fun q7_4 => xu fun q7_5 => xu fun q7_6 => fun q7_7 =>
          (R 1 0 q7_1 q7_2 f_tokens q7_3 q7_4 q7_5 q7_6 q7_7 f_topic a_kinds a_starts a_values plan_f_codes plan_a_code).bind (xu fun q8_1 => xu fun q8_2 => xu fun q8_3 => xu fun q8_4 => xu fun q8_5 => xu fun q8_6 => xu fun q8_7 => xu fun q8_8 => fun q8_9 =>
            xlet (mX8_sign (93 : Int32) q8_1 q8_2 f_tokens q8_3 q8_4 q8_5 q8_6 a_kinds a_starts a_values) (xu fun q9_1 => xu fun q9_2 => xu fun q9_3 => xu fun q9_4 => xu fun q9_5 => fun q9_6 =>
              some (q9_1, q9_2, q9_3, q9_4, q9_5, q9_6, q8_7 - 1, q8_8, q8_9))))
      else
        if (mX8_ownNow f_kind f_value) = 21 then
          xlet (mX8_next f_tokens f_now f_start a_kinds a_starts a_values) (xu fun q11_1 => xu fun q11_2 => xu fun q11_3 => fun q11_4 =>
            xlet (mX7_emit (1 : Int32) plan_f_codes plan_a_code) (xu fun q12_1 => fun q12_2 =>
              some (f_fault, f_place, q11_1, q11_2, q11_3, q11_4, f_open, q12_1, q12_2)))
        else
          (R 2 0 f_fault f_place f_tokens f_now f_kind f_start f_value f_open f_topic a_kinds a_starts a_values plan_f_codes plan_a_code).bind (xu fun q13_1 => xu fun q13_2 => xu fun q13_3 => xu fun q13_4 => xu fun q13_5 => xu fun q13_6 => xu fun q13_7 => xu fun q13_8 => fun q13_9 =>
            if (mX8_compareNow q13_4 q13_6) = 0 then
              xlet (mX8_fail (1 : Int32) (mX8_where q13_4 q13_5 q13_6) q13_1 q13_2) (xu fun q15_1 => fun q15_2 =>
                mX8_fact_129 R f_tokens f_topic a_kinds a_starts a_values (mX8_compareNow q13_4 q13_6) q15_1 q15_2 q13_3 q13_4 q13_5 q13_6 q13_7 q13_8 q13_9)
            else
              mX8_fact_129 R f_tokens f_topic a_kinds a_starts a_values (mX8_compareNow q13_4 q13_6) q13_1 q13_2 q13_3 q13_4 q13_5 q13_6 q13_7 q13_8 q13_9)
  else
    some (f_fault, f_place, f_now, f_kind, f_start, f_value, f_open, plan_f_codes, plan_a_code)
def mX8_test_89   (x1_89 : Int32) (f_fault_89 : Int32) (f_place_89 : Int32) (f_now_89 : Int32) (f_kind_89 : Int32) (f_start_89 : Int32) (f_value_89 : Int32) (f_open_89 : Int32) (plan_f_codes_89 : Int32) (plan_a_code_89 : Nat → Int32) : Option (Int32 × Int32 × Int32 × Int32 × Int32 × Int32 × Int32 × Int32 × (Nat → Int32)) :=
  if x1_89 = 0 then
    some (f_fault_89, f_place_89, f_now_89, f_kind_89, f_start_89, f_value_89, f_open_89, plan_f_codes_89, plan_a_code_89)
  else
    xlet (mX7_emit ((-21) : Int32) plan_f_codes_89 plan_a_code_89) (xu fun q14_1 => fun q14_2 =>
      some (f_fault_89, f_place_89, f_now_89, f_kind_89, f_start_89, f_value_89, f_open_89, q14_1, q14_2))
def mX8_test_8 (R : Nat → Int32 → Int32 → Int32 → Int32 → Int32 → Int32 → Int32 → Int32 → Int32 → Int32 → (Nat → Int32) → (Nat → Int32) → (Nat → Int32) → Int32 → (Nat → Int32) → Option (Int32 × Int32 × Int32 × Int32 × Int32 × Int32 × Int32 × Int32 × (Nat → Int32))) (f_tokens : Int32) (f_topic : Int32) (a_kinds : Nat → Int32) (a_starts : Nat → Int32) (a_values : Nat → Int32)  : Nat → Nat → Int32 → Int32 → Int32 → Int32 → Int32 → Int32 → Int32 → Int32 → Int32 → (Nat → Int32) → Option (Int32 × Int32 × Int32 × Int32 × Int32 × Int32 × Int32 × Int32 × (Nat → Int32))
  | 0, i8, x1_8, f_fault_8, f_place_8, f_now_8, f_kind_8, f_start_8, f_value_8, f_open_8, plan_f_codes_8, plan_a_code_8 => mX8_test_89 x1_8 f_fault_8 f_place_8 f_now_8 f_kind_8 f_start_8 f_value_8 f_open_8 plan_f_codes_8 plan_a_code_8
  | k8 + 1, i8, x1_8, f_fault_8, f_place_8, f_now_8, f_kind_8, f_start_8, f_value_8, f_open_8, plan_f_codes_8, plan_a_code_8 =>
    if f_fault_8 = 0 then
      if (mX8_ownNow f_kind_8 f_value_8) = 19 then
        xlet (mX8_next f_tokens f_now_8 f_start_8 a_kinds a_starts a_values) (xu fun q4_1 => xu fun q4_2 => xu fun q4_3 => fun q4_4 =>
          (R 0 0 f_fault_8 f_place_8 f_tokens q4_1 q4_2 q4_3 q4_4 f_open_8 f_topic a_kinds a_starts a_values plan_f_codes_8 plan_a_code_8).bind (xu fun q5_1 => xu fun q5_2 => xu fun q5_3 => xu fun q5_4 => xu fun q5_5 => xu fun q5_6 => xu fun q5_7 => xu fun q5_8 => fun q5_9 =>
            xlet (mX7_emit ((-20) : Int32) q5_8 q5_9) (xu fun q6_1 => fun q6_2 =>
              mX8_test_8 R f_tokens f_topic a_kinds a_starts a_values k8 (i8 + 1) x1_8 q5_1 q5_2 q5_3 q5_4 q5_5 q5_6 q5_7 q6_1 q6_2)))
      else
        if (mX8_ownNow f_kind_8 f_value_8) = 18 then
          xlet (mX8_next f_tokens f_now_8 f_start_8 a_kinds a_starts a_values) (xu fun q8_1 => xu fun q8_2 => xu fun q8_3 => fun q8_4 =>
            if x1_8 = 0 then
              (R 0 0 f_fault_8 f_place_8 f_tokens q8_1 q8_2 q8_3 q8_4 f_open_8 f_topic a_kinds a_starts a_values plan_f_codes_8 plan_a_code_8).bind (xu fun q10_1 => xu fun q10_2 => xu fun q10_3 => xu fun q10_4 => xu fun q10_5 => xu fun q10_6 => xu fun q10_7 => xu fun q10_8 => fun q10_9 =>
                mX8_test_8 R f_tokens f_topic a_kinds a_starts a_values k8 (i8 + 1) (1 : Int32) q10_1 q10_2 q10_3 q10_4 q10_5 q10_6 q10_7 q10_8 q10_9)
            else
              xlet (mX7_emit ((-21) : Int32) plan_f_codes_8 plan_a_code_8) (xu fun q11_1 => fun q11_2 =>
                (R 0 0 f_fault_8 f_place_8 f_tokens q8_1 q8_2 q8_3 q8_4 f_open_8 f_topic a_kinds a_starts a_values q11_1 q11_2).bind (xu fun q12_1 => xu fun q12_2 => xu fun q12_3 => xu fun q12_4 => xu fun q12_5 => xu fun q12_6 => xu fun q12_7 => xu fun q12_8 => fun q12_9 =>
                  mX8_test_8 R f_tokens f_topic a_kinds a_starts a_values k8 (i8 + 1) (1 : Int32) q12_1 q12_2 q12_3 q12_4 q12_5 q12_6 q12_7 q12_8 q12_9)))
        else
          mX8_test_89 x1_8 f_fault_8 f_place_8 f_now_8 f_kind_8 f_start_8 f_value_8 f_open_8 plan_f_codes_8 plan_a_code_8
    else
      mX8_test_89 x1_8 f_fault_8 f_place_8 f_now_8 f_kind_8 f_start_8 f_value_8 f_open_8 plan_f_codes_8 plan_a_code_8
def mX8_test (R : Nat → Int32 → Int32 → Int32 → Int32 → Int32 → Int32 → Int32 → Int32 → Int32 → Int32 → (Nat → Int32) → (Nat → Int32) → (Nat → Int32) → Int32 → (Nat → Int32) → Option (Int32 × Int32 × Int32 × Int32 × Int32 × Int32 × Int32 × Int32 × (Nat → Int32))) (f_fault : Int32) (f_place : Int32) (f_tokens : Int32) (f_now : Int32) (f_kind : Int32) (f_start : Int32) (f_value : Int32) (f_open : Int32) (f_topic : Int32) (a_kinds : Nat → Int32) (a_starts : Nat → Int32) (a_values : Nat → Int32) (plan_f_codes : Int32) (plan_a_code : Nat → Int32) : Option (Int32 × Int32 × Int32 × Int32 × Int32 × Int32 × Int32 × Int32 × (Nat → Int32)) :=
  (R 0 0 f_fault f_place f_tokens f_now f_kind f_start f_value f_open f_topic a_kinds a_starts a_values plan_f_codes plan_a_code).bind (xu fun q1_1 => xu fun q1_2 => xu fun q1_3 => xu fun q1_4 => xu fun q1_5 => xu fun q1_6 => xu fun q1_7 => xu fun q1_8 => fun q1_9 =>
    mX8_test_8 R f_tokens f_topic a_kinds a_starts a_values 1600 0 (0 : Int32) q1_1 q1_2 q1_3 q1_4 q1_5 q1_6 q1_7 q1_8 q1_9)
def mX8_sum_115   (x1_115 : Int32) (f_fault_115 : Int32) (f_place_115 : Int32) (f_now_115 : Int32) (f_kind_115 : Int32) (f_start_115 : Int32) (f_value_115 : Int32) (f_open_115 : Int32) (plan_f_codes_115 : Int32) (plan_a_code_115 : Nat → Int32) : Option (Int32 × Int32 × Int32 × Int32 × Int32 × Int32 × Int32 × Int32 × (Nat → Int32)) :=
  if x1_115 = 0 then
    some (f_fault_115, f_place_115, f_now_115, f_kind_115, f_start_115, f_value_115, f_open_115, plan_f_codes_115, plan_a_code_115)
  else
    xlet (mX7_emit x1_115 plan_f_codes_115 plan_a_code_115) (xu fun q16_1 => fun q16_2 =>
      some (f_fault_115, f_place_115, f_now_115, f_kind_115, f_start_115, f_value_115, f_open_115, q16_1, q16_2))
def mX8_sum_56 (R : Nat → Int32 → Int32 → Int32 → Int32 → Int32 → Int32 → Int32 → Int32 → Int32 → Int32 → (Nat → Int32) → (Nat → Int32) → (Nat → Int32) → Int32 → (Nat → Int32) → Option (Int32 × Int32 × Int32 × Int32 × Int32 × Int32 × Int32 × Int32 × (Nat → Int32))) (f_tokens : Int32) (f_topic : Int32) (a_kinds : Nat → Int32) (a_starts : Nat → Int32) (a_values : Nat → Int32) (f_fault_8 : Int32) (f_kind_8 : Int32) (f_now_8 : Int32) (f_open_8 : Int32) (f_place_8 : Int32) (f_start_8 : Int32) (f_value_8 : Int32) (plan_a_code_8 : Nat → Int32) (plan_f_codes_8 : Int32) (x1_8 : Int32) (K8 : Int32 → Int32 → Int32 → Int32 → Int32 → Int32 → Int32 → Int32 → Int32 → (Nat → Int32) → Option (Int32 × Int32 × Int32 × Int32 × Int32 × Int32 × Int32 × Int32 × (Nat → Int32))) (s0_56 : Int32) : Option (Int32 × Int32 × Int32 × Int32 × Int32 × Int32 × Int32 × Int32 × (Nat → Int32)) :=
  if (mX8_productNow f_kind_8 f_value_8) = 0 then
    if s0_56 = 0 then
      mX8_sum_115 x1_8 f_fault_8 f_place_8 f_now_8 f_kind_8 f_start_8 f_value_8 f_open_8 plan_f_codes_8 plan_a_code_8
    else
      xlet (mX8_next f_tokens f_now_8 f_start_8 a_kinds a_starts a_values) (xu fun q7_1 => xu fun q7_2 => xu fun q7_3 => fun q7_4 =>
        if x1_8 = 0 then
          (R 3 0 f_fault_8 f_place_8 f_tokens q7_1 q7_2 q7_3 q7_4 f_open_8 f_topic a_kinds a_starts a_values plan_f_codes_8 plan_a_code_8).bind (xu fun q9_1 => xu fun q9_2 => xu fun q9_3 => xu fun q9_4 => xu fun q9_5 => xu fun q9_6 => xu fun q9_7 => xu fun q9_8 => fun q9_9 =>
            K8 s0_56 q9_1 q9_2 q9_3 q9_4 q9_5 q9_6 q9_7 q9_8 q9_9)
        else
          xlet (mX7_emit x1_8 plan_f_codes_8 plan_a_code_8) (xu fun q10_1 => fun q10_2 =>
            (R 3 0 f_fault_8 f_place_8 f_tokens q7_1 q7_2 q7_3 q7_4 f_open_8 f_topic a_kinds a_starts a_values q10_1 q10_2).bind (xu fun q11_1 => xu fun q11_2 => xu fun q11_3 => xu fun q11_4 => xu fun q11_5 => xu fun q11_6 => xu fun q11_7 => xu fun q11_8 => fun q11_9 =>
              K8 s0_56 q11_1 q11_2 q11_3 q11_4 q11_5 q11_6 q11_7 q11_8 q11_9)))
  else
    xlet (mX8_next f_tokens f_now_8 f_start_8 a_kinds a_starts a_values) (xu fun q12_1 => xu fun q12_2 => xu fun q12_3 => fun q12_4 =>
      (R 3 0 f_fault_8 f_place_8 f_tokens q12_1 q12_2 q12_3 q12_4 f_open_8 f_topic a_kinds a_starts a_values plan_f_codes_8 plan_a_code_8).bind (xu fun q13_1 => xu fun q13_2 => xu fun q13_3 => xu fun q13_4 => xu fun q13_5 => xu fun q13_6 => xu fun q13_7 => xu fun q13_8 => fun q13_9 =>
        xlet (mX7_emit (mX8_productNow f_kind_8 f_value_8) q13_8 q13_9) (xu fun q14_1 => fun q14_2 =>
          K8 x1_8 q13_1 q13_2 q13_3 q13_4 q13_5 q13_6 q13_7 q14_1 q14_2)))
def mX8_sum_8 (R : Nat → Int32 → Int32 → Int32 → Int32 → Int32 → Int32 → Int32 → Int32 → Int32 → Int32 → (Nat → Int32) → (Nat → Int32) → (Nat → Int32) → Int32 → (Nat → Int32) → Option (Int32 × Int32 × Int32 × Int32 × Int32 × Int32 × Int32 × Int32 × (Nat → Int32))) (f_tokens : Int32) (f_topic : Int32) (a_kinds : Nat → Int32) (a_starts : Nat → Int32) (a_values : Nat → Int32)  : Nat → Nat → Int32 → Int32 → Int32 → Int32 → Int32 → Int32 → Int32 → Int32 → Int32 → (Nat → Int32) → Option (Int32 × Int32 × Int32 × Int32 × Int32 × Int32 × Int32 × Int32 × (Nat → Int32))
  | 0, i8, x1_8, f_fault_8, f_place_8, f_now_8, f_kind_8, f_start_8, f_value_8, f_open_8, plan_f_codes_8, plan_a_code_8 => mX8_sum_115 x1_8 f_fault_8 f_place_8 f_now_8 f_kind_8 f_start_8 f_value_8 f_open_8 plan_f_codes_8 plan_a_code_8
  | k8 + 1, i8, x1_8, f_fault_8, f_place_8, f_now_8, f_kind_8, f_start_8, f_value_8, f_open_8, plan_f_codes_8, plan_a_code_8 =>
    if f_fault_8 = 0 then
      if (mX8_signNow f_kind_8 f_value_8) = 43 then
        mX8_sum_56 R f_tokens f_topic a_kinds a_starts a_values f_fault_8 f_kind_8 f_now_8 f_open_8 f_place_8 f_start_8 f_value_8 plan_a_code_8 plan_f_codes_8 x1_8 (fun zx1_8 zf_fault_8 zf_place_8 zf_now_8 zf_kind_8 zf_start_8 zf_value_8 zf_open_8 zplan_f_codes_8 zplan_a_code_8 => mX8_sum_8 R f_tokens f_topic a_kinds a_starts a_values k8 (i8 + 1) zx1_8 zf_fault_8 zf_place_8 zf_now_8 zf_kind_8 zf_start_8 zf_value_8 zf_open_8 zplan_f_codes_8 zplan_a_code_8) ((-10) : Int32)
      else
        if (mX8_signNow f_kind_8 f_value_8) = 45 then
          mX8_sum_56 R f_tokens f_topic a_kinds a_starts a_values f_fault_8 f_kind_8 f_now_8 f_open_8 f_place_8 f_start_8 f_value_8 plan_a_code_8 plan_f_codes_8 x1_8 (fun zx1_8 zf_fault_8 zf_place_8 zf_now_8 zf_kind_8 zf_start_8 zf_value_8 zf_open_8 zplan_f_codes_8 zplan_a_code_8 => mX8_sum_8 R f_tokens f_topic a_kinds a_starts a_values k8 (i8 + 1) zx1_8 zf_fault_8 zf_place_8 zf_now_8 zf_kind_8 zf_start_8 zf_value_8 zf_open_8 zplan_f_codes_8 zplan_a_code_8) ((-11) : Int32)
        else
          mX8_sum_56 R f_tokens f_topic a_kinds a_starts a_values f_fault_8 f_kind_8 f_now_8 f_open_8 f_place_8 f_start_8 f_value_8 plan_a_code_8 plan_f_codes_8 x1_8 (fun zx1_8 zf_fault_8 zf_place_8 zf_now_8 zf_kind_8 zf_start_8 zf_value_8 zf_open_8 zplan_f_codes_8 zplan_a_code_8 => mX8_sum_8 R f_tokens f_topic a_kinds a_starts a_values k8 (i8 + 1) zx1_8 zf_fault_8 zf_place_8 zf_now_8 zf_kind_8 zf_start_8 zf_value_8 zf_open_8 zplan_f_codes_8 zplan_a_code_8) (0 : Int32)
    else
      mX8_sum_115 x1_8 f_fault_8 f_place_8 f_now_8 f_kind_8 f_start_8 f_value_8 f_open_8 plan_f_codes_8 plan_a_code_8
def mX8_sum (R : Nat → Int32 → Int32 → Int32 → Int32 → Int32 → Int32 → Int32 → Int32 → Int32 → Int32 → (Nat → Int32) → (Nat → Int32) → (Nat → Int32) → Int32 → (Nat → Int32) → Option (Int32 × Int32 × Int32 × Int32 × Int32 × Int32 × Int32 × Int32 × (Nat → Int32))) (f_fault : Int32) (f_place : Int32) (f_tokens : Int32) (f_now : Int32) (f_kind : Int32) (f_start : Int32) (f_value : Int32) (f_open : Int32) (f_topic : Int32) (a_kinds : Nat → Int32) (a_starts : Nat → Int32) (a_values : Nat → Int32) (plan_f_codes : Int32) (plan_a_code : Nat → Int32) : Option (Int32 × Int32 × Int32 × Int32 × Int32 × Int32 × Int32 × Int32 × (Nat → Int32)) :=
  (R 3 0 f_fault f_place f_tokens f_now f_kind f_start f_value f_open f_topic a_kinds a_starts a_values plan_f_codes plan_a_code).bind (xu fun q1_1 => xu fun q1_2 => xu fun q1_3 => xu fun q1_4 => xu fun q1_5 => xu fun q1_6 => xu fun q1_7 => xu fun q1_8 => fun q1_9 =>
    mX8_sum_8 R f_tokens f_topic a_kinds a_starts a_values 1600 0 (0 : Int32) q1_1 q1_2 q1_3 q1_4 q1_5 q1_6 q1_7 q1_8 q1_9)
def mX8_part (R : Nat → Int32 → Int32 → Int32 → Int32 → Int32 → Int32 → Int32 → Int32 → Int32 → Int32 → (Nat → Int32) → (Nat → Int32) → (Nat → Int32) → Int32 → (Nat → Int32) → Option (Int32 × Int32 × Int32 × Int32 × Int32 × Int32 × Int32 × Int32 × (Nat → Int32))) (f_fault : Int32) (f_place : Int32) (f_tokens : Int32) (f_now : Int32) (f_kind : Int32) (f_start : Int32) (f_value : Int32) (f_open : Int32) (f_topic : Int32) (a_kinds : Nat → Int32) (a_starts : Nat → Int32) (a_values : Nat → Int32) (plan_f_codes : Int32) (plan_a_code : Nat → Int32) : Option (Int32 × Int32 × Int32 × Int32 × Int32 × Int32 × Int32 × Int32 × (Nat → Int32)) :=
  if f_fault = 0 then
    if f_kind = 2 then
      xlet (mX7_emit f_value plan_f_codes plan_a_code) (xu fun q3_1 => fun q3_2 =>
        xlet (mX8_next f_tokens f_now f_start a_kinds a_starts a_values) (xu fun q4_1 => xu fun q4_2 => xu fun q4_3 => fun q4_4 =>
          some (f_fault, f_place, q4_1, q4_2, q4_3, q4_4, f_open, q3_1, q3_2)))
    else
      if (mX8_factNow f_kind f_value f_topic) = (-1) then
        if (mX8_signNow f_kind f_value) = 40 then
          xlet (mX8_openOne f_fault f_place f_tokens f_now f_start f_open a_kinds a_starts a_values) (xu fun q7_1 => xu fun q7_2 => xu fun q7_3 => xu fun q7_4 => xu fun q7_5 => xu fun q7_6 => fun q7_7 =>
            (R 2 0 q7_1 q7_2 f_tokens q7_3 q7_4 q7_5 q7_6 q7_7 f_topic a_kinds a_starts a_values plan_f_codes plan_a_code).bind (xu fun q8_1 => xu fun q8_2 => xu fun q8_3 => xu fun q8_4 => xu fun q8_5 => xu fun q8_6 => xu fun q8_7 => xu fun q8_8 => fun q8_9 =>
              xlet (mX8_sign (41 : Int32) q8_1 q8_2 f_tokens q8_3 q8_4 q8_5 q8_6 a_kinds a_starts a_values) (xu fun q9_1 => xu fun q9_2 => xu fun q9_3 => xu fun q9_4 => xu fun q9_5 => fun q9_6 =>
                some (q9_1, q9_2, q9_3, q9_4, q9_5, q9_6, q8_7 - 1, q8_8, q8_9))))
        else
          if (mX8_ownNow f_kind f_value) = 22 then
            (R 4  (mX8_ownNow f_kind f_value) f_fault f_place f_tokens f_now f_kind f_start f_value f_open f_topic a_kinds a_starts a_values plan_f_codes plan_a_code).bind (xu fun q11_1 => xu fun q11_2 => xu fun q11_3 => xu fun q11_4 => xu fun q11_5 => xu fun q11_6 => xu fun q11_7 => xu fun q11_8 => fun q11_9 =>
              some (q11_1, q11_2, q11_3, q11_4, q11_5, q11_6, q11_7, q11_8, q11_9))
          else
            if (mX8_ownNow f_kind f_value) = 23 then
              (R 4  (mX8_ownNow f_kind f_value) f_fault f_place f_tokens f_now f_kind f_start f_value f_open f_topic a_kinds a_starts a_values plan_f_codes plan_a_code).bind (xu fun q13_1 => xu fun q13_2 => xu fun q13_3 => xu fun q13_4 => xu fun q13_5 => xu fun q13_6 => xu fun q13_7 => xu fun q13_8 => fun q13_9 =>
                some (q13_1, q13_2, q13_3, q13_4, q13_5, q13_6, q13_7, q13_8, q13_9))
            else
              if (mX8_ownNow f_kind f_value) = 17 then
                (R 4  (mX8_ownNow f_kind f_value) f_fault f_place f_tokens f_now f_kind f_start f_value f_open f_topic a_kinds a_starts a_values plan_f_codes plan_a_code).bind (xu fun q15_1 => xu fun q15_2 => xu fun q15_3 => xu fun q15_4 => xu fun q15_5 => xu fun q15_6 => xu fun q15_7 => xu fun q15_8 => fun q15_9 =>
                  some (q15_1, q15_2, q15_3, q15_4, q15_5, q15_6, q15_7, q15_8, q15_9))
              else
                xlet (mX8_fail (1 : Int32) (mX8_where f_kind f_start f_value) f_fault f_place) (xu fun q16_1 => fun q16_2 =>
                  some (q16_1, q16_2, f_now, f_kind, f_start, f_value, f_open, plan_f_codes, plan_a_code))
      else
        xlet (mX7_emit ((-1) - (mX8_factNow f_kind f_value f_topic)) plan_f_codes plan_a_code) (xu fun q17_1 => fun q17_2 =>
          xlet (mX8_next f_tokens f_now f_start a_kinds a_starts a_values) (xu fun q18_1 => xu fun q18_2 => xu fun q18_3 => fun q18_4 =>
            some (f_fault, f_place, q18_1, q18_2, q18_3, q18_4, f_open, q17_1, q17_2)))
  else
    some (f_fault, f_place, f_now, f_kind, f_start, f_value, f_open, plan_f_codes, plan_a_code)
def mX8_call_42 (R : Nat → Int32 → Int32 → Int32 → Int32 → Int32 → Int32 → Int32 → Int32 → Int32 → Int32 → (Nat → Int32) → (Nat → Int32) → (Nat → Int32) → Int32 → (Nat → Int32) → Option (Int32 × Int32 × Int32 × Int32 × Int32 × Int32 × Int32 × Int32 × (Nat → Int32))) (v_word : Int32) (f_tokens : Int32) (f_topic : Int32) (a_kinds : Nat → Int32) (a_starts : Nat → Int32) (a_values : Nat → Int32)  (f_fault_42 : Int32) (f_place_42 : Int32) (f_now_42 : Int32) (f_kind_42 : Int32) (f_start_42 : Int32) (f_value_42 : Int32) (f_open_42 : Int32) (plan_f_codes_42 : Int32) (plan_a_code_42 : Nat → Int32) : Option (Int32 × Int32 × Int32 × Int32 × Int32 × Int32 × Int32 × Int32 × (Nat → Int32)) :=
  (R 2 0 f_fault_42 f_place_42 f_tokens f_now_42 f_kind_42 f_start_42 f_value_42 f_open_42 f_topic a_kinds a_starts a_values plan_f_codes_42 plan_a_code_42).bind (xu fun q8_1 => xu fun q8_2 => xu fun q8_3 => xu fun q8_4 => xu fun q8_5 => xu fun q8_6 => xu fun q8_7 => xu fun q8_8 => fun q8_9 =>
    xlet (mX8_sign (44 : Int32) q8_1 q8_2 f_tokens q8_3 q8_4 q8_5 q8_6 a_kinds a_starts a_values) (xu fun q9_1 => xu fun q9_2 => xu fun q9_3 => xu fun q9_4 => xu fun q9_5 => fun q9_6 =>
      (R 2 0 q9_1 q9_2 f_tokens q9_3 q9_4 q9_5 q9_6 q8_7 f_topic a_kinds a_starts a_values q8_8 q8_9).bind (xu fun q10_1 => xu fun q10_2 => xu fun q10_3 => xu fun q10_4 => xu fun q10_5 => xu fun q10_6 => xu fun q10_7 => xu fun q10_8 => fun q10_9 =>
        xlet (mX8_sign (41 : Int32) q10_1 q10_2 f_tokens q10_3 q10_4 q10_5 q10_6 a_kinds a_starts a_values) (xu fun q11_1 => xu fun q11_2 => xu fun q11_3 => xu fun q11_4 => xu fun q11_5 => fun q11_6 =>
          if v_word = 17 then
            xlet (mX7_emit ((-23) : Int32) q10_8 q10_9) (xu fun q13_1 => fun q13_2 =>
              some (q11_1, q11_2, q11_3, q11_4, q11_5, q11_6, q10_7 - 1, q13_1, q13_2))
          else
            if v_word = 22 then
              xlet (mX7_emit ((-15) : Int32) q10_8 q10_9) (xu fun q15_1 => fun q15_2 =>
                some (q11_1, q11_2, q11_3, q11_4, q11_5, q11_6, q10_7 - 1, q15_1, q15_2))
            else
              xlet (mX7_emit ((-16) : Int32) q10_8 q10_9) (xu fun q16_1 => fun q16_2 =>
                some (q11_1, q11_2, q11_3, q11_4, q11_5, q11_6, q10_7 - 1, q16_1, q16_2))))))
def mX8_call_22 (R : Nat → Int32 → Int32 → Int32 → Int32 → Int32 → Int32 → Int32 → Int32 → Int32 → Int32 → (Nat → Int32) → (Nat → Int32) → (Nat → Int32) → Int32 → (Nat → Int32) → Option (Int32 × Int32 × Int32 × Int32 × Int32 × Int32 × Int32 × Int32 × (Nat → Int32))) (v_word : Int32) (f_tokens : Int32) (f_open : Int32) (f_topic : Int32) (a_kinds : Nat → Int32) (a_starts : Nat → Int32) (a_values : Nat → Int32) (plan_f_codes : Int32) (plan_a_code : Nat → Int32)  (f_fault_22 : Int32) (f_place_22 : Int32) (f_now_22 : Int32) (f_kind_22 : Int32) (f_start_22 : Int32) (f_value_22 : Int32) : Option (Int32 × Int32 × Int32 × Int32 × Int32 × Int32 × Int32 × Int32 × (Nat → Int32)) :=
  xlet (mX8_openOne f_fault_22 f_place_22 f_tokens f_now_22 f_start_22 f_open a_kinds a_starts a_values) (xu fun q4_1 => xu fun q4_2 => xu fun q4_3 => xu fun q4_4 => xu fun q4_5 => xu fun q4_6 => fun q4_7 =>
    if v_word = 17 then
      (R 1 0 q4_1 q4_2 f_tokens q4_3 q4_4 q4_5 q4_6 q4_7 f_topic a_kinds a_starts a_values plan_f_codes plan_a_code).bind (xu fun q6_1 => xu fun q6_2 => xu fun q6_3 => xu fun q6_4 => xu fun q6_5 => xu fun q6_6 => xu fun q6_7 => xu fun q6_8 => fun q6_9 =>
        xlet (mX8_sign (44 : Int32) q6_1 q6_2 f_tokens q6_3 q6_4 q6_5 q6_6 a_kinds a_starts a_values) (xu fun q7_1 => xu fun q7_2 => xu fun q7_3 => xu fun q7_4 => xu fun q7_5 => fun q7_6 =>
          mX8_call_42 R v_word f_tokens f_topic a_kinds a_starts a_values q7_1 q7_2 q7_3 q7_4 q7_5 q7_6 q6_7 q6_8 q6_9))
    else
      mX8_call_42 R v_word f_tokens f_topic a_kinds a_starts a_values q4_1 q4_2 q4_3 q4_4 q4_5 q4_6 q4_7 plan_f_codes plan_a_code)
def mX8_call (R : Nat → Int32 → Int32 → Int32 → Int32 → Int32 → Int32 → Int32 → Int32 → Int32 → Int32 → (Nat → Int32) → (Nat → Int32) → (Nat → Int32) → Int32 → (Nat → Int32) → Option (Int32 × Int32 × Int32 × Int32 × Int32 × Int32 × Int32 × Int32 × (Nat → Int32))) (v_word : Int32) (f_fault : Int32) (f_place : Int32) (f_tokens : Int32) (f_now : Int32) (f_start : Int32) (f_open : Int32) (f_topic : Int32) (a_kinds : Nat → Int32) (a_starts : Nat → Int32) (a_values : Nat → Int32) (plan_f_codes : Int32) (plan_a_code : Nat → Int32) : Option (Int32 × Int32 × Int32 × Int32 × Int32 × Int32 × Int32 × Int32 × (Nat → Int32)) :=
  xlet (mX8_next f_tokens f_now f_start a_kinds a_starts a_values) (xu fun q1_1 => xu fun q1_2 => xu fun q1_3 => fun q1_4 =>
    if (mX8_signNow q1_2 q1_4) = 40 then
      mX8_call_22 R v_word f_tokens f_open f_topic a_kinds a_starts a_values plan_f_codes plan_a_code f_fault f_place q1_1 q1_2 q1_3 q1_4
    else
      xlet (mX8_fail (1 : Int32) (mX8_where q1_2 q1_3 q1_4) f_fault f_place) (xu fun q3_1 => fun q3_2 =>
        mX8_call_22 R v_word f_tokens f_open f_topic a_kinds a_starts a_values plan_f_codes plan_a_code q3_1 q3_2 q1_1 q1_2 q1_3 q1_4))
def mX8_rec : Nat → Nat → Int32 → Int32 → Int32 → Int32 → Int32 → Int32 → Int32 → Int32 → Int32 → Int32 → (Nat → Int32) → (Nat → Int32) → (Nat → Int32) → Int32 → (Nat → Int32) → Option (Int32 × Int32 × Int32 × Int32 × Int32 × Int32 × Int32 × Int32 × (Nat → Int32))
  | 0 => fun _ _ _ _ _ _ _ _ _ _ _ _ _ _ _ _ => none
  | n + 1 => fun j w f_fault f_place f_tokens f_now f_kind f_start f_value f_open f_topic a_kinds a_starts a_values plan_f_codes plan_a_code => match j with
    | 0 => mX8_fact (mX8_rec n) f_fault f_place f_tokens f_now f_kind f_start f_value f_open f_topic a_kinds a_starts a_values plan_f_codes plan_a_code
    | 1 => mX8_test (mX8_rec n) f_fault f_place f_tokens f_now f_kind f_start f_value f_open f_topic a_kinds a_starts a_values plan_f_codes plan_a_code
    | 2 => mX8_sum (mX8_rec n) f_fault f_place f_tokens f_now f_kind f_start f_value f_open f_topic a_kinds a_starts a_values plan_f_codes plan_a_code
    | 3 => mX8_part (mX8_rec n) f_fault f_place f_tokens f_now f_kind f_start f_value f_open f_topic a_kinds a_starts a_values plan_f_codes plan_a_code
    | _ => mX8_call (mX8_rec n) w f_fault f_place f_tokens f_now f_start f_open f_topic a_kinds a_starts a_values plan_f_codes plan_a_code
def mtX8_fact (f_fault : Int32) (f_place : Int32) (f_tokens : Int32) (f_now : Int32) (f_kind : Int32) (f_start : Int32) (f_value : Int32) (f_open : Int32) (f_topic : Int32) (a_kinds : Nat → Int32) (a_starts : Nat → Int32) (a_values : Nat → Int32) (plan_f_codes : Int32) (plan_a_code : Nat → Int32) : Option (Int32 × Int32 × Int32 × Int32 × Int32 × Int32 × Int32 × Int32 × (Nat → Int32)) := mX8_rec 60 0 0 f_fault f_place f_tokens f_now f_kind f_start f_value f_open f_topic a_kinds a_starts a_values plan_f_codes plan_a_code
def mtX8_test (f_fault : Int32) (f_place : Int32) (f_tokens : Int32) (f_now : Int32) (f_kind : Int32) (f_start : Int32) (f_value : Int32) (f_open : Int32) (f_topic : Int32) (a_kinds : Nat → Int32) (a_starts : Nat → Int32) (a_values : Nat → Int32) (plan_f_codes : Int32) (plan_a_code : Nat → Int32) : Option (Int32 × Int32 × Int32 × Int32 × Int32 × Int32 × Int32 × Int32 × (Nat → Int32)) := mX8_rec 60 1 0 f_fault f_place f_tokens f_now f_kind f_start f_value f_open f_topic a_kinds a_starts a_values plan_f_codes plan_a_code
def mtX8_sum (f_fault : Int32) (f_place : Int32) (f_tokens : Int32) (f_now : Int32) (f_kind : Int32) (f_start : Int32) (f_value : Int32) (f_open : Int32) (f_topic : Int32) (a_kinds : Nat → Int32) (a_starts : Nat → Int32) (a_values : Nat → Int32) (plan_f_codes : Int32) (plan_a_code : Nat → Int32) : Option (Int32 × Int32 × Int32 × Int32 × Int32 × Int32 × Int32 × Int32 × (Nat → Int32)) := mX8_rec 60 2 0 f_fault f_place f_tokens f_now f_kind f_start f_value f_open f_topic a_kinds a_starts a_values plan_f_codes plan_a_code
def mtX8_part (f_fault : Int32) (f_place : Int32) (f_tokens : Int32) (f_now : Int32) (f_kind : Int32) (f_start : Int32) (f_value : Int32) (f_open : Int32) (f_topic : Int32) (a_kinds : Nat → Int32) (a_starts : Nat → Int32) (a_values : Nat → Int32) (plan_f_codes : Int32) (plan_a_code : Nat → Int32) : Option (Int32 × Int32 × Int32 × Int32 × Int32 × Int32 × Int32 × Int32 × (Nat → Int32)) := mX8_rec 60 3 0 f_fault f_place f_tokens f_now f_kind f_start f_value f_open f_topic a_kinds a_starts a_values plan_f_codes plan_a_code
def mtX8_call (v_word : Int32) (f_fault : Int32) (f_place : Int32) (f_tokens : Int32) (f_now : Int32) (f_kind : Int32) (f_start : Int32) (f_value : Int32) (f_open : Int32) (f_topic : Int32) (a_kinds : Nat → Int32) (a_starts : Nat → Int32) (a_values : Nat → Int32) (plan_f_codes : Int32) (plan_a_code : Nat → Int32) : Option (Int32 × Int32 × Int32 × Int32 × Int32 × Int32 × Int32 × Int32 × (Nat → Int32)) := mX8_rec 60 4 v_word f_fault f_place f_tokens f_now f_kind f_start f_value f_open f_topic a_kinds a_starts a_values plan_f_codes plan_a_code
