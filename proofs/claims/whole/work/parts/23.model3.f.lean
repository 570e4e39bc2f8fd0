def mX12_linkIs_54 (f_size : Int32) (f_in : Int32) (a_tape : Nat → Int32) (a_told : Nat → Int32) (a_linkTold : Nat → Int32) (a_linksTold : Nat → Int32) (a_thingName : Nat → Int64)  (x3_54 : Int32) (f_sign_54 : Int32) (f_signAt_54 : Int32) (f_signEnd_54 : Int32) (f_value_54 : Int32) (f_word_54 : Int64) (f_faultKind_54 : Int32) (f_faultPlace_54 : Int32) (f_lexAt_54 : Int32) : Option (Int32 × Int32 × Int32 × Int32 × Int64 × Int32 × Int32 × Int32 × (Nat → Int32) × (Nat → Int32)) :=
  (mX12_mustWord (29807 : Int64) f_size f_sign_54 f_signAt_54 f_signEnd_54 f_value_54 f_word_54 f_faultKind_54 f_faultPlace_54 f_lexAt_54 a_tape).bind (xu fun q8_1 => xu fun q8_2 => xu fun q8_3 => xu fun q8_4 => xu fun q8_5 => xu fun q8_6 => xu fun q8_7 => fun q8_8 =>
    (mX12_known f_size q8_1 q8_2 q8_3 q8_4 q8_5 q8_6 q8_7 q8_8 f_in a_tape a_told a_thingName).bind (xu fun q9_1 => xu fun q9_2 => xu fun q9_3 => xu fun q9_4 => xu fun q9_5 => xu fun q9_6 => xu fun q9_7 => xu fun q9_8 => fun q9_9 =>
      if 0 < q9_7 then
        some (q9_2, q9_3, q9_4, q9_5, q9_6, q9_7, q9_8, q9_9, a_linkTold, a_linksTold)
      else
        if xinb x3_54 48 = true then
          if xinb ((4 * x3_54) + (a_linksTold x3_54.toNatClampNeg)) 192 = true then
            some (q9_2, q9_3, q9_4, q9_5, q9_6, q9_7, q9_8, q9_9, upd a_linkTold ((4 * x3_54) + (a_linksTold x3_54.toNatClampNeg)).toNatClampNeg q9_1, upd a_linksTold x3_54.toNatClampNeg ((a_linksTold x3_54.toNatClampNeg) + 1))
          else none
        else none))
def mX12_linkIs (f_size : Int32) (f_sign : Int32) (f_signAt : Int32) (f_signEnd : Int32) (f_value : Int32) (f_word : Int64) (f_faultKind : Int32) (f_faultPlace : Int32) (f_lexAt : Int32) (f_in : Int32) (a_tape : Nat → Int32) (a_told : Nat → Int32) (a_linkTold : Nat → Int32) (a_linksTold : Nat → Int32) (a_thingName : Nat → Int64) : Option (Int32 × Int32 × Int32 × Int32 × Int64 × Int32 × Int32 × Int32 × (Nat → Int32) × (Nat → Int32)) :=
  (mX12_isCounted false f_size f_sign f_signAt f_signEnd f_value f_word f_faultKind f_faultPlace f_lexAt a_tape).bind (xu fun q1_1 => xu fun q1_2 => xu fun q1_3 => xu fun q1_4 => xu fun q1_5 => xu fun q1_6 => xu fun q1_7 => xu fun q1_8 => fun q1_9 =>
    if q1_1 = true then
      (mX12_known f_size q1_2 q1_3 q1_4 q1_5 q1_6 q1_7 q1_8 q1_9 f_in a_tape a_told a_thingName).bind (xu fun q3_1 => xu fun q3_2 => xu fun q3_3 => xu fun q3_4 => xu fun q3_5 => xu fun q3_6 => xu fun q3_7 => xu fun q3_8 => fun q3_9 =>
        if 0 < q3_7 then
          some (q3_2, q3_3, q3_4, q3_5, q3_6, q3_7, q3_8, q3_9, a_linkTold, a_linksTold)
        else
          if xinb ((24 * f_in) + q3_1) 48 = true then
            if (a_linksTold ((24 * f_in) + q3_1).toNatClampNeg) = 4 then
              xlet (mX12_blame (6 : Int32) f_signAt q3_7 q3_8) (xu fun q7_1 => fun q7_2 =>
                mX12_linkIs_54 f_size f_in a_tape a_told a_linkTold a_linksTold a_thingName ((24 * f_in) + q3_1) q3_2 q3_3 q3_4 q3_5 q3_6 q7_1 q7_2 q3_9)
            else
              mX12_linkIs_54 f_size f_in a_tape a_told a_linkTold a_linksTold a_thingName ((24 * f_in) + q3_1) q3_2 q3_3 q3_4 q3_5 q3_6 q3_7 q3_8 q3_9
          else none)
    else
      some (q1_2, q1_3, q1_4, q1_5, q1_6, q1_7, q1_8, q1_9, a_linkTold, a_linksTold))
def mX12_rootIs_20 (f_size : Int32) (f_sign : Int32) (f_signAt : Int32) (f_signEnd : Int32) (f_value : Int32) (f_word : Int64) (f_faultKind : Int32) (f_faultPlace : Int32) (f_lexAt : Int32) (f_in : Int32) (a_tape : Nat → Int32) (a_told : Nat → Int32) (a_rootsTold : Nat → Int32) (a_rootTold : Nat → Int32) (a_thingName : Nat → Int64)  (s0_20 : Bool) : Option (Int32 × Int32 × Int32 × Int32 × Int64 × Int32 × Int32 × Int32 × (Nat → Int32) × (Nat → Int32)) :=
  (mX12_isCounted s0_20 f_size f_sign f_signAt f_signEnd f_value f_word f_faultKind f_faultPlace f_lexAt a_tape).bind (xu fun q3_1 => xu fun q3_2 => xu fun q3_3 => xu fun q3_4 => xu fun q3_5 => xu fun q3_6 => xu fun q3_7 => xu fun q3_8 => fun q3_9 =>
    if q3_1 = true then
      (mX12_known f_size q3_2 q3_3 q3_4 q3_5 q3_6 q3_7 q3_8 q3_9 f_in a_tape a_told a_thingName).bind (xu fun q5_1 => xu fun q5_2 => xu fun q5_3 => xu fun q5_4 => xu fun q5_5 => xu fun q5_6 => xu fun q5_7 => xu fun q5_8 => fun q5_9 =>
        if 0 < q5_7 then
          some (q5_2, q5_3, q5_4, q5_5, q5_6, q5_7, q5_8, q5_9, a_rootsTold, a_rootTold)
        else
          if xinb ((8 * f_in) + (a_rootsTold f_in.toNatClampNeg)) 16 = true then
            some (q5_2, q5_3, q5_4, q5_5, q5_6, q5_7, q5_8, q5_9, upd a_rootsTold f_in.toNatClampNeg ((a_rootsTold f_in.toNatClampNeg) + 1), upd a_rootTold ((8 * f_in) + (a_rootsTold f_in.toNatClampNeg)).toNatClampNeg q5_1)
          else none)
    else
      some (q3_2, q3_3, q3_4, q3_5, q3_6, q3_7, q3_8, q3_9, a_rootsTold, a_rootTold))
def mX12_rootIs (f_size : Int32) (f_sign : Int32) (f_signAt : Int32) (f_signEnd : Int32) (f_value : Int32) (f_word : Int64) (f_faultKind : Int32) (f_faultPlace : Int32) (f_lexAt : Int32) (f_in : Int32) (a_tape : Nat → Int32) (a_told : Nat → Int32) (a_rootsTold : Nat → Int32) (a_rootTold : Nat → Int32) (a_thingName : Nat → Int64) : Option (Int32 × Int32 × Int32 × Int32 × Int64 × Int32 × Int32 × Int32 × (Nat → Int32) × (Nat → Int32)) :=
  if xinb f_in 2 = true then
    if (a_rootsTold f_in.toNatClampNeg) = 8 then
      mX12_rootIs_20 f_size f_sign f_signAt f_signEnd f_value f_word f_faultKind f_faultPlace f_lexAt f_in a_tape a_told a_rootsTold a_rootTold a_thingName true
    else
      mX12_rootIs_20 f_size f_sign f_signAt f_signEnd f_value f_word f_faultKind f_faultPlace f_lexAt f_in a_tape a_told a_rootsTold a_rootTold a_thingName false
  else none
def mX12_churnIs (f_size : Int32) (f_sign : Int32) (f_signAt : Int32) (f_signEnd : Int32) (f_value : Int32) (f_word : Int64) (f_faultKind : Int32) (f_faultPlace : Int32) (f_lexAt : Int32) (f_in : Int32) (a_tape : Nat → Int32) (a_churnTold : Nat → Int32) : Option (Int32 × Int32 × Int32 × Int32 × Int64 × Int32 × Int32 × Int32 × (Nat → Int32)) :=
  (mX12_isCounted false f_size f_sign f_signAt f_signEnd f_value f_word f_faultKind f_faultPlace f_lexAt a_tape).bind (xu fun q1_1 => xu fun q1_2 => xu fun q1_3 => xu fun q1_4 => xu fun q1_5 => xu fun q1_6 => xu fun q1_7 => xu fun q1_8 => fun q1_9 =>
    if q1_1 = true then
      (mX12_number (0 : Int32) (100 : Int32) f_size q1_2 q1_3 q1_4 q1_5 q1_6 q1_7 q1_8 q1_9 a_tape).bind (xu fun q3_1 => xu fun q3_2 => xu fun q3_3 => xu fun q3_4 => xu fun q3_5 => xu fun q3_6 => xu fun q3_7 => xu fun q3_8 => fun q3_9 =>
        if xinb f_in 2 = true then
          some (q3_2, q3_3, q3_4, q3_5, q3_6, q3_7, q3_8, q3_9, upd a_churnTold f_in.toNatClampNeg q3_1)
        else none)
    else
      some (q1_2, q1_3, q1_4, q1_5, q1_6, q1_7, q1_8, q1_9, a_churnTold))
def mX12_reading_58 (v_which : Int32) (f_size : Int32) (f_codes : Int32) (f_in : Int32) (f_deep : Int32) (f_open : Int32) (f_opMany : Int32) (f_operand : Bool) (a_tape : Nat → Int32) (a_sumFrom : Nat → Int32) (a_sumBehind : Nat → Int32) (a_codeSort : Nat → Int32) (a_codeValue : Nat → Int32) (a_frame : Nat → Int32) (a_phase : Nat → Int32) (a_begins : Nat → Int32) (a_pair : Nat → Int32) (a_base : Nat → Int32) (a_ops : Nat → Int32)  (s0_58 : Bool) (f_sign_58 : Int32) (f_signAt_58 : Int32) (f_signEnd_58 : Int32) (f_value_58 : Int32) (f_word_58 : Int64) (f_faultKind_58 : Int32) (f_faultPlace_58 : Int32) (f_lexAt_58 : Int32) : Option (Int32 × Int32 × Int32 × Int32 × Int64 × Int32 × Int32 × Int32 × Int32 × Int32 × Int32 × Int32 × Int32 × Bool × (Nat → Int32) × (Nat → Int32) × (Nat → Int32) × (Nat → Int32) × (Nat → Int32) × (Nat → Int32) × (Nat → Int32) × (Nat → Int32) × (Nat → Int32) × (Nat → Int32)) :=
  (mX12_reads s0_58 f_size f_sign_58 f_signAt_58 f_signEnd_58 f_value_58 f_word_58 f_faultKind_58 f_faultPlace_58 f_lexAt_58 f_codes f_in v_which f_deep f_open f_opMany f_operand a_tape a_codeSort a_codeValue a_frame a_phase a_begins a_pair a_base a_ops).bind (xu fun q6_1 => xu fun q6_2 => xu fun q6_3 => xu fun q6_4 => xu fun q6_5 => xu fun q6_6 => xu fun q6_7 => xu fun q6_8 => xu fun q6_9 => xu fun q6_10 => xu fun q6_11 => xu fun q6_12 => xu fun q6_13 => xu fun q6_14 => xu fun q6_15 => xu fun q6_16 => xu fun q6_17 => xu fun q6_18 => xu fun q6_19 => xu fun q6_20 => fun q6_21 =>
    some (q6_1, q6_2, q6_3, q6_4, q6_5, q6_6, q6_7, q6_8, q6_9, v_which, q6_10, q6_11, q6_12, q6_13, upd a_sumFrom ((3 * f_in) + v_which).toNatClampNeg f_codes, upd a_sumBehind ((3 * f_in) + v_which).toNatClampNeg q6_9, q6_14, q6_15, q6_16, q6_17, q6_18, q6_19, q6_20, q6_21))
def mX12_reading_25 (v_which : Int32) (f_size : Int32) (f_sign : Int32) (f_signAt : Int32) (f_signEnd : Int32) (f_value : Int32) (f_word : Int64) (f_faultKind : Int32) (f_faultPlace : Int32) (f_lexAt : Int32) (f_codes : Int32) (f_in : Int32) (f_law : Int32) (f_deep : Int32) (f_open : Int32) (f_opMany : Int32) (f_operand : Bool) (a_tape : Nat → Int32) (a_sumFrom : Nat → Int32) (a_sumBehind : Nat → Int32) (a_codeSort : Nat → Int32) (a_codeValue : Nat → Int32) (a_frame : Nat → Int32) (a_phase : Nat → Int32) (a_begins : Nat → Int32) (a_pair : Nat → Int32) (a_base : Nat → Int32) (a_ops : Nat → Int32)  (s0_25 : Bool) : Option (Int32 × Int32 × Int32 × Int32 × Int64 × Int32 × Int32 × Int32 × Int32 × Int32 × Int32 × Int32 × Int32 × Bool × (Nat → Int32) × (Nat → Int32) × (Nat → Int32) × (Nat → Int32) × (Nat → Int32) × (Nat → Int32) × (Nat → Int32) × (Nat → Int32) × (Nat → Int32) × (Nat → Int32)) :=
  (mX12_isCounted s0_25 f_size f_sign f_signAt f_signEnd f_value f_word f_faultKind f_faultPlace f_lexAt a_tape).bind (xu fun q3_1 => xu fun q3_2 => xu fun q3_3 => xu fun q3_4 => xu fun q3_5 => xu fun q3_6 => xu fun q3_7 => xu fun q3_8 => fun q3_9 =>
    if q3_1 = true then
      if v_which = 2 then
        mX12_reading_58 v_which f_size f_codes f_in f_deep f_open f_opMany f_operand a_tape a_sumFrom a_sumBehind a_codeSort a_codeValue a_frame a_phase a_begins a_pair a_base a_ops false q3_2 q3_3 q3_4 q3_5 q3_6 q3_7 q3_8 q3_9
      else
        mX12_reading_58 v_which f_size f_codes f_in f_deep f_open f_opMany f_operand a_tape a_sumFrom a_sumBehind a_codeSort a_codeValue a_frame a_phase a_begins a_pair a_base a_ops true q3_2 q3_3 q3_4 q3_5 q3_6 q3_7 q3_8 q3_9
    else
      some (q3_2, q3_3, q3_4, q3_5, q3_6, q3_7, q3_8, q3_9, f_codes, f_law, f_deep, f_open, f_opMany, f_operand, a_sumFrom, a_sumBehind, a_codeSort, a_codeValue, a_frame, a_phase, a_begins, a_pair, a_base, a_ops))
def mX12_reading (v_which : Int32) (f_size : Int32) (f_sign : Int32) (f_signAt : Int32) (f_signEnd : Int32) (f_value : Int32) (f_word : Int64) (f_faultKind : Int32) (f_faultPlace : Int32) (f_lexAt : Int32) (f_codes : Int32) (f_in : Int32) (f_law : Int32) (f_deep : Int32) (f_open : Int32) (f_opMany : Int32) (f_operand : Bool) (a_tape : Nat → Int32) (a_sumFrom : Nat → Int32) (a_sumBehind : Nat → Int32) (a_codeSort : Nat → Int32) (a_codeValue : Nat → Int32) (a_frame : Nat → Int32) (a_phase : Nat → Int32) (a_begins : Nat → Int32) (a_pair : Nat → Int32) (a_base : Nat → Int32) (a_ops : Nat → Int32) : Option (Int32 × Int32 × Int32 × Int32 × Int64 × Int32 × Int32 × Int32 × Int32 × Int32 × Int32 × Int32 × Int32 × Bool × (Nat → Int32) × (Nat → Int32) × (Nat → Int32) × (Nat → Int32) × (Nat → Int32) × (Nat → Int32) × (Nat → Int32) × (Nat → Int32) × (Nat → Int32) × (Nat → Int32)) :=
  if xinb ((3 * f_in) + v_which) 6 = true then
    if (a_sumFrom ((3 * f_in) + v_which).toNatClampNeg) = (-1) then
      mX12_reading_25 v_which f_size f_sign f_signAt f_signEnd f_value f_word f_faultKind f_faultPlace f_lexAt f_codes f_in f_law f_deep f_open f_opMany f_operand a_tape a_sumFrom a_sumBehind a_codeSort a_codeValue a_frame a_phase a_begins a_pair a_base a_ops false
    else
      mX12_reading_25 v_which f_size f_sign f_signAt f_signEnd f_value f_word f_faultKind f_faultPlace f_lexAt f_codes f_in f_law f_deep f_open f_opMany f_operand a_tape a_sumFrom a_sumBehind a_codeSort a_codeValue a_frame a_phase a_begins a_pair a_base a_ops true
  else none
def mX12_statement (f_size : Int32) (f_sign : Int32) (f_signAt : Int32) (f_signEnd : Int32) (f_value : Int32) (f_word : Int64) (f_faultKind : Int32) (f_faultPlace : Int32) (f_lexAt : Int32) (f_codes : Int32) (f_in : Int32) (f_trainRead : Int32) (f_law : Int32) (f_deep : Int32) (f_open : Int32) (f_opMany : Int32) (f_operand : Bool) (a_tape : Nat → Int32) (a_unitsTold : Nat → Int32) (a_told : Nat → Int32) (a_sizeTold : Nat → Int32) (a_trainTold : Nat → Int32) (a_linkTold : Nat → Int32) (a_linksTold : Nat → Int32) (a_rootsTold : Nat → Int32) (a_rootTold : Nat → Int32) (a_churnTold : Nat → Int32) (a_sumFrom : Nat → Int32) (a_sumBehind : Nat → Int32) (a_codeSort : Nat → Int32) (a_codeValue : Nat → Int32) (a_thingName : Nat → Int64) (a_frame : Nat → Int32) (a_phase : Nat → Int32) (a_begins : Nat → Int32) (a_pair : Nat → Int32) (a_base : Nat → Int32) (a_ops : Nat → Int32) : Option (Int32 × Int32 × Int32 × Int32 × Int64 × Int32 × Int32 × Int32 × Int32 × Int32 × Int32 × Int32 × Int32 × Int32 × Bool × (Nat → Int32) × (Nat → Int32) × (Nat → Int32) × (Nat → Int32) × (Nat → Int32) × (Nat → Int32) × (Nat → Int32) × (Nat → Int32) × (Nat → Int32) × (Nat → Int32) × (Nat → Int32) × (Nat → Int32) × (Nat → Int64) × (Nat → Int32) × (Nat → Int32) × (Nat → Int32) × (Nat → Int32) × (Nat → Int32) × (Nat → Int32)) :=
  xlet (mX12_lex f_faultKind f_faultPlace f_lexAt) (xu fun q1_1 => fun q1_2 =>
    if 0 < q1_1 then
      some (f_sign, f_signAt, f_signEnd, f_value, f_word, q1_1, q1_2, f_lexAt, f_codes, f_trainRead, f_law, f_deep, f_open, f_opMany, f_operand, a_told, a_sizeTold, a_trainTold, a_linkTold, a_linksTold, a_rootsTold, a_rootTold, a_churnTold, a_sumFrom, a_sumBehind, a_codeSort, a_codeValue, a_thingName, a_frame, a_phase, a_begins, a_pair, a_base, a_ops)
    else
      if (mX12_isWord (499967946343 : Int64) f_sign f_word) = true then
        (mX12_thingIs f_size f_sign f_signAt f_signEnd f_value f_word q1_1 q1_2 f_lexAt f_in f_trainRead a_tape a_unitsTold a_told a_sizeTold a_trainTold a_linksTold a_thingName).bind (xu fun q4_1 => xu fun q4_2 => xu fun q4_3 => xu fun q4_4 => xu fun q4_5 => xu fun q4_6 => xu fun q4_7 => xu fun q4_8 => xu fun q4_9 => xu fun q4_10 => xu fun q4_11 => xu fun q4_12 => fun q4_13 =>
          some (q4_1, q4_2, q4_3, q4_4, q4_5, q4_6, q4_7, q4_8, f_codes, f_trainRead, f_law, f_deep, f_open, f_opMany, f_operand, q4_9, q4_10, q4_11, a_linkTold, q4_12, a_rootsTold, a_rootTold, a_churnTold, a_sumFrom, a_sumBehind, a_codeSort, a_codeValue, q4_13, a_frame, a_phase, a_begins, a_pair, a_base, a_ops))
      else
        if (mX12_isWord (1852143732 : Int64) f_sign f_word) = true then
          (mX12_nextIs f_size f_sign f_signAt f_signEnd f_value f_word q1_1 q1_2 f_lexAt f_in f_trainRead a_tape a_told a_trainTold).bind (xu fun q6_1 => xu fun q6_2 => xu fun q6_3 => xu fun q6_4 => xu fun q6_5 => xu fun q6_6 => xu fun q6_7 => xu fun q6_8 => fun q6_9 =>
            some (q6_1, q6_2, q6_3, q6_4, q6_5, q6_6, q6_7, q6_8, f_codes, q6_9, f_law, f_deep, f_open, f_opMany, f_operand, a_told, a_sizeTold, a_trainTold, a_linkTold, a_linksTold, a_rootsTold, a_rootTold, a_churnTold, a_sumFrom, a_sumBehind, a_codeSort, a_codeValue, a_thingName, a_frame, a_phase, a_begins, a_pair, a_base, a_ops))
        else
          if (mX12_isWord (1818848875 : Int64) f_sign f_word) = true then
            (mX12_linkIs f_size f_sign f_signAt f_signEnd f_value f_word q1_1 q1_2 f_lexAt f_in a_tape a_told a_linkTold a_linksTold a_thingName).bind (xu fun q8_1 => xu fun q8_2 => xu fun q8_3 => xu fun q8_4 => xu fun q8_5 => xu fun q8_6 => xu fun q8_7 => xu fun q8_8 => xu fun q8_9 => fun q8_10 =>
              some (q8_1, q8_2, q8_3, q8_4, q8_5, q8_6, q8_7, q8_8, f_codes, f_trainRead, f_law, f_deep, f_open, f_opMany, f_operand, a_told, a_sizeTold, a_trainTold, q8_9, q8_10, a_rootsTold, a_rootTold, a_churnTold, a_sumFrom, a_sumBehind, a_codeSort, a_codeValue, a_thingName, a_frame, a_phase, a_begins, a_pair, a_base, a_ops))
          else
            if (mX12_isWord (1919905652 : Int64) f_sign f_word) = true then
              (mX12_rootIs f_size f_sign f_signAt f_signEnd f_value f_word q1_1 q1_2 f_lexAt f_in a_tape a_told a_rootsTold a_rootTold a_thingName).bind (xu fun q10_1 => xu fun q10_2 => xu fun q10_3 => xu fun q10_4 => xu fun q10_5 => xu fun q10_6 => xu fun q10_7 => xu fun q10_8 => xu fun q10_9 => fun q10_10 =>
                some (q10_1, q10_2, q10_3, q10_4, q10_5, q10_6, q10_7, q10_8, f_codes, f_trainRead, f_law, f_deep, f_open, f_opMany, f_operand, a_told, a_sizeTold, a_trainTold, a_linkTold, a_linksTold, q10_9, q10_10, a_churnTold, a_sumFrom, a_sumBehind, a_codeSort, a_codeValue, a_thingName, a_frame, a_phase, a_begins, a_pair, a_base, a_ops))
            else
              if (mX12_isWord (426954289774 : Int64) f_sign f_word) = true then
                (mX12_churnIs f_size f_sign f_signAt f_signEnd f_value f_word q1_1 q1_2 f_lexAt f_in a_tape a_churnTold).bind (xu fun q12_1 => xu fun q12_2 => xu fun q12_3 => xu fun q12_4 => xu fun q12_5 => xu fun q12_6 => xu fun q12_7 => xu fun q12_8 => fun q12_9 =>
                  some (q12_1, q12_2, q12_3, q12_4, q12_5, q12_6, q12_7, q12_8, f_codes, f_trainRead, f_law, f_deep, f_open, f_opMany, f_operand, a_told, a_sizeTold, a_trainTold, a_linkTold, a_linksTold, a_rootsTold, a_rootTold, q12_9, a_sumFrom, a_sumBehind, a_codeSort, a_codeValue, a_thingName, a_frame, a_phase, a_begins, a_pair, a_base, a_ops))
              else
                if (mX12_isWord (1886351475 : Int64) f_sign f_word) = true then
                  (mX12_reading (0 : Int32) f_size f_sign f_signAt f_signEnd f_value f_word q1_1 q1_2 f_lexAt f_codes f_in f_law f_deep f_open f_opMany f_operand a_tape a_sumFrom a_sumBehind a_codeSort a_codeValue a_frame a_phase a_begins a_pair a_base a_ops).bind (xu fun q14_1 => xu fun q14_2 => xu fun q14_3 => xu fun q14_4 => xu fun q14_5 => xu fun q14_6 => xu fun q14_7 => xu fun q14_8 => xu fun q14_9 => xu fun q14_10 => xu fun q14_11 => xu fun q14_12 => xu fun q14_13 => xu fun q14_14 => xu fun q14_15 => xu fun q14_16 => xu fun q14_17 => xu fun q14_18 => xu fun q14_19 => xu fun q14_20 => xu fun q14_21 => xu fun q14_22 => xu fun q14_23 => fun q14_24 =>
                    some (q14_1, q14_2, q14_3, q14_4, q14_5, q14_6, q14_7, q14_8, q14_9, f_trainRead, q14_10, q14_11, q14_12, q14_13, q14_14, a_told, a_sizeTold, a_trainTold, a_linkTold, a_linksTold, a_rootsTold, a_rootTold, a_churnTold, q14_15, q14_16, q14_17, q14_18, a_thingName, q14_19, q14_20, q14_21, q14_22, q14_23, q14_24))
                else
                  if (mX12_isWord (440005915496 : Int64) f_sign f_word) = true then
                    (mX12_reading (1 : Int32) f_size f_sign f_signAt f_signEnd f_value f_word q1_1 q1_2 f_lexAt f_codes f_in f_law f_deep f_open f_opMany f_operand a_tape a_sumFrom a_sumBehind a_codeSort a_codeValue a_frame a_phase a_begins a_pair a_base a_ops).bind (xu fun q16_1 => xu fun q16_2 => xu fun q16_3 => xu fun q16_4 => xu fun q16_5 => xu fun q16_6 => xu fun q16_7 => xu fun q16_8 => xu fun q16_9 => xu fun q16_10 => xu fun q16_11 => xu fun q16_12 => xu fun q16_13 => xu fun q16_14 => xu fun q16_15 => xu fun q16_16 => xu fun q16_17 => xu fun q16_18 => xu fun q16_19 => xu fun q16_20 => xu fun q16_21 => xu fun q16_22 => xu fun q16_23 => fun q16_24 =>
                      some (q16_1, q16_2, q16_3, q16_4, q16_5, q16_6, q16_7, q16_8, q16_9, f_trainRead, q16_10, q16_11, q16_12, q16_13, q16_14, a_told, a_sizeTold, a_trainTold, a_linkTold, a_linksTold, a_rootsTold, a_rootTold, a_churnTold, q16_15, q16_16, q16_17, q16_18, a_thingName, q16_19, q16_20, q16_21, q16_22, q16_23, q16_24))
                  else
                    if (mX12_isWord (427071599731 : Int64) f_sign f_word) = true then
                      (mX12_reading (2 : Int32) f_size f_sign f_signAt f_signEnd f_value f_word q1_1 q1_2 f_lexAt f_codes f_in f_law f_deep f_open f_opMany f_operand a_tape a_sumFrom a_sumBehind a_codeSort a_codeValue a_frame a_phase a_begins a_pair a_base a_ops).bind (xu fun q18_1 => xu fun q18_2 => xu fun q18_3 => xu fun q18_4 => xu fun q18_5 => xu fun q18_6 => xu fun q18_7 => xu fun q18_8 => xu fun q18_9 => xu fun q18_10 => xu fun q18_11 => xu fun q18_12 => xu fun q18_13 => xu fun q18_14 => xu fun q18_15 => xu fun q18_16 => xu fun q18_17 => xu fun q18_18 => xu fun q18_19 => xu fun q18_20 => xu fun q18_21 => xu fun q18_22 => xu fun q18_23 => fun q18_24 =>
                        some (q18_1, q18_2, q18_3, q18_4, q18_5, q18_6, q18_7, q18_8, q18_9, f_trainRead, q18_10, q18_11, q18_12, q18_13, q18_14, a_told, a_sizeTold, a_trainTold, a_linkTold, a_linksTold, a_rootsTold, a_rootTold, a_churnTold, q18_15, q18_16, q18_17, q18_18, a_thingName, q18_19, q18_20, q18_21, q18_22, q18_23, q18_24))
                    else
                      xlet (mX12_blame (1 : Int32) f_signAt q1_1 q1_2) (xu fun q19_1 => fun q19_2 =>
                        some (f_sign, f_signAt, f_signEnd, f_value, f_word, q19_1, q19_2, f_lexAt, f_codes, f_trainRead, f_law, f_deep, f_open, f_opMany, f_operand, a_told, a_sizeTold, a_trainTold, a_linkTold, a_linksTold, a_rootsTold, a_rootTold, a_churnTold, a_sumFrom, a_sumBehind, a_codeSort, a_codeValue, a_thingName, a_frame, a_phase, a_begins, a_pair, a_base, a_ops)))
def mX12_finishes_53 (v_n : Int32) (f_size : Int32) (f_sign : Int32) (f_signAt : Int32) (f_signEnd : Int32) (f_value : Int32) (f_word : Int64) (f_lexAt : Int32) (a_tape : Nat → Int32)  (x2_53 : Int32) (f_faultKind_53 : Int32) (f_faultPlace_53 : Int32) : Option (Int32 × Int32 × Int32 × Int32 × Int64 × Int32 × Int32 × Int32) :=
  if (mX12_isSign (59 : Int32) f_sign f_value) = true then
    if v_n = 80 then
      if x2_53 < f_size then
        xlet (mX12_blame (6 : Int32) x2_53 f_faultKind_53 f_faultPlace_53) (xu fun q10_1 => fun q10_2 =>
          (mX12_must (59 : Int32) f_size f_sign f_signAt f_signEnd f_value f_word q10_1 q10_2 f_lexAt a_tape).bind (xu fun q11_1 => xu fun q11_2 => xu fun q11_3 => xu fun q11_4 => xu fun q11_5 => xu fun q11_6 => xu fun q11_7 => fun q11_8 =>
            some (q11_1, q11_2, q11_3, q11_4, q11_5, q11_6, q11_7, q11_8)))
      else
        (mX12_must (59 : Int32) f_size f_sign f_signAt f_signEnd f_value f_word f_faultKind_53 f_faultPlace_53 f_lexAt a_tape).bind (xu fun q12_1 => xu fun q12_2 => xu fun q12_3 => xu fun q12_4 => xu fun q12_5 => xu fun q12_6 => xu fun q12_7 => fun q12_8 =>
          some (q12_1, q12_2, q12_3, q12_4, q12_5, q12_6, q12_7, q12_8))
    else
      (mX12_must (59 : Int32) f_size f_sign f_signAt f_signEnd f_value f_word f_faultKind_53 f_faultPlace_53 f_lexAt a_tape).bind (xu fun q13_1 => xu fun q13_2 => xu fun q13_3 => xu fun q13_4 => xu fun q13_5 => xu fun q13_6 => xu fun q13_7 => fun q13_8 =>
        some (q13_1, q13_2, q13_3, q13_4, q13_5, q13_6, q13_7, q13_8))
  else
    (mX12_must (59 : Int32) f_size f_sign f_signAt f_signEnd f_value f_word f_faultKind_53 f_faultPlace_53 f_lexAt a_tape).bind (xu fun q14_1 => xu fun q14_2 => xu fun q14_3 => xu fun q14_4 => xu fun q14_5 => xu fun q14_6 => xu fun q14_7 => fun q14_8 =>
      some (q14_1, q14_2, q14_3, q14_4, q14_5, q14_6, q14_7, q14_8))
def mX12_finishes_17 (v_n : Int32) (f_size : Int32) (f_sign : Int32) (f_signAt : Int32) (f_signEnd : Int32) (f_value : Int32) (f_word : Int64) (f_lexAt : Int32) (a_tape : Nat → Int32)  : Nat → Int32 → Int32 → Int32 → Option (Int32 × Int32 × Int32 × Int32 × Int64 × Int32 × Int32 × Int32)
  | 0, x2_17, f_faultKind_17, f_faultPlace_17 => none
  | k17 + 1, x2_17, f_faultKind_17, f_faultPlace_17 =>
    if x2_17 < f_size then
      if xinb x2_17 1800 = true then
        if (a_tape x2_17.toNatClampNeg) = 32 then
          mX12_finishes_17 v_n f_size f_sign f_signAt f_signEnd f_value f_word f_lexAt a_tape k17 (x2_17 + 1) f_faultKind_17 f_faultPlace_17
        else
          if (a_tape x2_17.toNatClampNeg) = 10 then
            mX12_finishes_17 v_n f_size f_sign f_signAt f_signEnd f_value f_word f_lexAt a_tape k17 (x2_17 + 1) f_faultKind_17 f_faultPlace_17
          else
            mX12_finishes_53 v_n f_size f_sign f_signAt f_signEnd f_value f_word f_lexAt a_tape x2_17 f_faultKind_17 f_faultPlace_17
      else none
    else
      mX12_finishes_53 v_n f_size f_sign f_signAt f_signEnd f_value f_word f_lexAt a_tape x2_17 f_faultKind_17 f_faultPlace_17
def mX12_finishes (v_n : Int32) (f_size : Int32) (f_sign : Int32) (f_signAt : Int32) (f_signEnd : Int32) (f_value : Int32) (f_word : Int64) (f_faultKind : Int32) (f_faultPlace : Int32) (f_lexAt : Int32) (a_tape : Nat → Int32) : Option (Int32 × Int32 × Int32 × Int32 × Int64 × Int32 × Int32 × Int32) :=
  xlet (mX12_lex f_faultKind f_faultPlace f_lexAt) (xu fun q1_1 => fun q1_2 =>
    if 0 < q1_1 then
      some (f_sign, f_signAt, f_signEnd, f_value, f_word, q1_1, q1_2, f_lexAt)
    else
      mX12_finishes_17 v_n f_size f_sign f_signAt f_signEnd f_value f_word f_lexAt a_tape xfuel f_signEnd q1_1 q1_2)
def mX12_clears_52 (v_v : Int32) (v_t : Int32) (a_sizeOf : Nat → Int32) (a_trainOf : Nat → Int32) (a_carOf : Nat → Int32) (a_placeOf : Nat → Int32) (a_ageOf : Nat → Int32) (a_markOf : Nat → Int32)  : Nat → Nat → (Nat → Int32) → Option ((Nat → Int32) × (Nat → Int32) × (Nat → Int32) × (Nat → Int32) × (Nat → Int32) × (Nat → Int32) × (Nat → Int32))
  | 0, i52, a_linkTo_52 => some (upd a_sizeOf ((40 * v_v) + v_t).toNatClampNeg 0, upd a_trainOf ((40 * v_v) + v_t).toNatClampNeg (-1), upd a_carOf ((40 * v_v) + v_t).toNatClampNeg (-1), upd a_placeOf ((40 * v_v) + v_t).toNatClampNeg (-1), upd a_ageOf ((40 * v_v) + v_t).toNatClampNeg 0, upd a_markOf ((40 * v_v) + v_t).toNatClampNeg 0, a_linkTo_52)
  | k52 + 1, i52, a_linkTo_52 =>
    if xinb ((4 * ((40 * v_v) + v_t)) + (nI i52)) 3520 = true then
      mX12_clears_52 v_v v_t a_sizeOf a_trainOf a_carOf a_placeOf a_ageOf a_markOf k52 (i52 + 1) (upd a_linkTo_52 ((4 * ((40 * v_v) + v_t)) + (nI i52)).toNatClampNeg (-1))
    else none
def mX12_clears (v_v : Int32) (v_t : Int32) (a_sizeOf : Nat → Int32) (a_trainOf : Nat → Int32) (a_carOf : Nat → Int32) (a_placeOf : Nat → Int32) (a_ageOf : Nat → Int32) (a_markOf : Nat → Int32) (a_linkTo : Nat → Int32) : Option ((Nat → Int32) × (Nat → Int32) × (Nat → Int32) × (Nat → Int32) × (Nat → Int32) × (Nat → Int32) × (Nat → Int32)) :=
  if xinb ((40 * v_v) + v_t) 880 = true then
    mX12_clears_52 v_v v_t a_sizeOf a_trainOf a_carOf a_placeOf a_ageOf a_markOf 4 0 a_linkTo
  else none
def mX12_isThere (v_v : Int32) (v_t : Int32) (a_sizeOf : Nat → Int32) : Option (Bool) :=
  if xinb ((40 * v_v) + v_t) 880 = true then
    if 0 < (a_sizeOf ((40 * v_v) + v_t).toNatClampNeg) then
      some true
    else
      some false
  else none
def mX12_carsOf_5 (v_v : Int32) (v_train : Int32) (a_sizeOf : Nat → Int32) (a_trainOf : Nat → Int32) (a_carOf : Nat → Int32)  : Nat → Nat → Int32 → Option (Int32)
  | 0, i5, x3_5 => some x3_5
  | k5 + 1, i5, x3_5 =>
    (mX12_isThere v_v (nI i5) a_sizeOf).bind (fun q1 =>
      if q1 = true then
        if xinb ((40 * v_v) + (nI i5)) 880 = true then
          if (a_trainOf ((40 * v_v) + (nI i5)).toNatClampNeg) = v_train then
            if (a_carOf ((40 * v_v) + (nI i5)).toNatClampNeg) < x3_5 then
              mX12_carsOf_5 v_v v_train a_sizeOf a_trainOf a_carOf k5 (i5 + 1) x3_5
            else
              mX12_carsOf_5 v_v v_train a_sizeOf a_trainOf a_carOf k5 (i5 + 1) ((a_carOf ((40 * v_v) + (nI i5)).toNatClampNeg) + 1)
          else
            mX12_carsOf_5 v_v v_train a_sizeOf a_trainOf a_carOf k5 (i5 + 1) x3_5
        else none
      else
        mX12_carsOf_5 v_v v_train a_sizeOf a_trainOf a_carOf k5 (i5 + 1) x3_5)
def mX12_carsOf (v_v : Int32) (v_train : Int32) (a_sizeOf : Nat → Int32) (a_trainOf : Nat → Int32) (a_carOf : Nat → Int32) : Option (Int32) :=
  mX12_carsOf_5 v_v v_train a_sizeOf a_trainOf a_carOf 40 0 (0 : Int32)
def mX12_isIn (v_v : Int32) (v_t : Int32) (v_train : Int32) (v_car : Int32) (a_sizeOf : Nat → Int32) (a_trainOf : Nat → Int32) (a_carOf : Nat → Int32) : Option (Bool) :=
  (mX12_isThere v_v v_t a_sizeOf).bind (fun q1 =>
    if q1 = true then
      if xinb ((40 * v_v) + v_t) 880 = true then
        if (a_trainOf ((40 * v_v) + v_t).toNatClampNeg) = v_train then
          if (a_carOf ((40 * v_v) + v_t).toNatClampNeg) = v_car then
            some true
          else
            some false
        else
          some false
      else none
    else
      some false)
def mX12_unitsIn_6 (v_v : Int32) (v_train : Int32) (v_car : Int32) (a_sizeOf : Nat → Int32) (a_trainOf : Nat → Int32) (a_carOf : Nat → Int32)  : Nat → Nat → Int32 → Option (Int32)
  | 0, i6, x4_6 => some x4_6
  | k6 + 1, i6, x4_6 =>
    (mX12_isIn v_v (nI i6) v_train v_car a_sizeOf a_trainOf a_carOf).bind (fun q1 =>
      if q1 = true then
        if xinb ((40 * v_v) + (nI i6)) 880 = true then
          mX12_unitsIn_6 v_v v_train v_car a_sizeOf a_trainOf a_carOf k6 (i6 + 1) (x4_6 + (a_sizeOf ((40 * v_v) + (nI i6)).toNatClampNeg))
        else none
      else
        mX12_unitsIn_6 v_v v_train v_car a_sizeOf a_trainOf a_carOf k6 (i6 + 1) (x4_6 + 0))
def mX12_unitsIn (v_v : Int32) (v_train : Int32) (v_car : Int32) (a_sizeOf : Nat → Int32) (a_trainOf : Nat → Int32) (a_carOf : Nat → Int32) : Option (Int32) :=
  mX12_unitsIn_6 v_v v_train v_car a_sizeOf a_trainOf a_carOf 40 0 (0 : Int32)
def mX12_thingsIn_6 (v_v : Int32) (v_train : Int32) (v_car : Int32) (a_sizeOf : Nat → Int32) (a_trainOf : Nat → Int32) (a_carOf : Nat → Int32)  : Nat → Nat → Int32 → Option (Int32)
  | 0, i6, x4_6 => some x4_6
  | k6 + 1, i6, x4_6 =>
    (mX12_isIn v_v (nI i6) v_train v_car a_sizeOf a_trainOf a_carOf).bind (fun q1 =>
      if q1 = true then
        mX12_thingsIn_6 v_v v_train v_car a_sizeOf a_trainOf a_carOf k6 (i6 + 1) (x4_6 + 1)
      else
        mX12_thingsIn_6 v_v v_train v_car a_sizeOf a_trainOf a_carOf k6 (i6 + 1) (x4_6 + 0))
def mX12_thingsIn (v_v : Int32) (v_train : Int32) (v_car : Int32) (a_sizeOf : Nat → Int32) (a_trainOf : Nat → Int32) (a_carOf : Nat → Int32) : Option (Int32) :=
  mX12_thingsIn_6 v_v v_train v_car a_sizeOf a_trainOf a_carOf 40 0 (0 : Int32)
def mX12_lays_99 (v_v : Int32) (v_t : Int32) (v_train : Int32) (a_trainOf : Nat → Int32) (a_carOf : Nat → Int32) (a_placeOf : Nat → Int32)  (x7_99 : Int32) (s0_99 : Int32) : Option ((Nat → Int32) × (Nat → Int32) × (Nat → Int32)) :=
  some (upd (upd a_trainOf ((40 * v_v) + v_t).toNatClampNeg (-1)) ((40 * v_v) + v_t).toNatClampNeg v_train, upd a_carOf ((40 * v_v) + v_t).toNatClampNeg x7_99, upd a_placeOf ((40 * v_v) + v_t).toNatClampNeg s0_99)
def mX12_lays_80 (v_v : Int32) (v_t : Int32) (v_train : Int32) (a_sizeOf : Nat → Int32) (a_trainOf : Nat → Int32) (a_carOf : Nat → Int32) (a_placeOf : Nat → Int32)  (x5_80 : Int32) (x6_80 : Int32) (s0_80 : Int32) : Option ((Nat → Int32) × (Nat → Int32) × (Nat → Int32)) :=
  if x6_80 = 0 then
    (mX12_thingsIn v_v v_train x5_80 a_sizeOf (upd a_trainOf ((40 * v_v) + v_t).toNatClampNeg (-1)) a_carOf).bind (fun q9 =>
      mX12_lays_99 v_v v_t v_train a_trainOf a_carOf a_placeOf s0_80 q9)
  else
    mX12_lays_99 v_v v_t v_train a_trainOf a_carOf a_placeOf s0_80 (0 : Int32)
def mX12_lays_64 (v_v : Int32) (v_t : Int32) (v_train : Int32) (a_sizeOf : Nat → Int32) (a_trainOf : Nat → Int32) (a_carOf : Nat → Int32) (a_placeOf : Nat → Int32)  (x5_64 : Int32) (s0_64 : Int32) : Option ((Nat → Int32) × (Nat → Int32) × (Nat → Int32)) :=
  if s0_64 = 0 then
    mX12_lays_80 v_v v_t v_train a_sizeOf a_trainOf a_carOf a_placeOf x5_64 s0_64 x5_64
  else
    mX12_lays_80 v_v v_t v_train a_sizeOf a_trainOf a_carOf a_placeOf x5_64 s0_64 (x5_64 + 1)
def mX12_lays_59 (v_v : Int32) (v_t : Int32) (v_train : Int32) (a_sizeOf : Nat → Int32) (a_trainOf : Nat → Int32) (a_carOf : Nat → Int32) (a_placeOf : Nat → Int32)  (x5_59 : Int32) : Option ((Nat → Int32) × (Nat → Int32) × (Nat → Int32)) :=
  mX12_lays_64 v_v v_t v_train a_sizeOf a_trainOf a_carOf a_placeOf x5_59 (1 : Int32)
def mX12_lays (v_v : Int32) (v_t : Int32) (v_train : Int32) (f_bank : Int32) (a_unitsTold : Nat → Int32) (a_sizeOf : Nat → Int32) (a_trainOf : Nat → Int32) (a_carOf : Nat → Int32) (a_placeOf : Nat → Int32) : Option ((Nat → Int32) × (Nat → Int32) × (Nat → Int32)) :=
  if xinb ((40 * v_v) + v_t) 880 = true then
    (mX12_carsOf v_v v_train a_sizeOf (upd a_trainOf ((40 * v_v) + v_t).toNatClampNeg (-1)) a_carOf).bind (fun q2 =>
      if (q2 - 1) < 0 then
        mX12_lays_59 v_v v_t v_train a_sizeOf a_trainOf a_carOf a_placeOf (q2 - 1)
      else
        (mX12_unitsIn v_v v_train (q2 - 1) a_sizeOf (upd a_trainOf ((40 * v_v) + v_t).toNatClampNeg (-1)) a_carOf).bind (fun q4 =>
          if xinb f_bank 2 = true then
            if (a_unitsTold f_bank.toNatClampNeg) < (q4 + (a_sizeOf ((40 * v_v) + v_t).toNatClampNeg)) then
              mX12_lays_59 v_v v_t v_train a_sizeOf a_trainOf a_carOf a_placeOf (q2 - 1)
            else
              mX12_lays_64 v_v v_t v_train a_sizeOf a_trainOf a_carOf a_placeOf (q2 - 1) (0 : Int32)
          else none))
  else none
def mX12_begin_122 (f_bank : Int32) (a_rootsTold : Nat → Int32) (a_rootTold : Nat → Int32) (a_stepOf : Nat → Int32) (a_keptMany : Nat → Int32)  : Nat → Nat → (Nat → Int32) → (Nat → Int32) → (Nat → Int32) → (Nat → Int32) → (Nat → Int32) → (Nat → Int32) → (Nat → Int32) → (Nat → Int32) → Option (Int32 × Int32 × (Nat → Int32) × (Nat → Int32) × (Nat → Int32) × (Nat → Int32) × (Nat → Int32) × (Nat → Int32) × (Nat → Int32) × (Nat → Int32) × (Nat → Int32) × (Nat → Int32))
  | 0, i122, a_sizeOf_122, a_trainOf_122, a_carOf_122, a_placeOf_122, a_ageOf_122, a_markOf_122, a_linkTo_122, a_rootTo_122 => some ((0 : Int32), (0 : Int32), upd a_stepOf (0 : Int32).toNatClampNeg 0, a_sizeOf_122, a_trainOf_122, a_carOf_122, a_placeOf_122, a_ageOf_122, a_markOf_122, a_linkTo_122, a_rootTo_122, upd a_keptMany (0 : Int32).toNatClampNeg 0)
  | k122 + 1, i122, a_sizeOf_122, a_trainOf_122, a_carOf_122, a_placeOf_122, a_ageOf_122, a_markOf_122, a_linkTo_122, a_rootTo_122 =>
    if (nI i122) < (a_rootsTold f_bank.toNatClampNeg) then
      if xinb ((8 * f_bank) + (nI i122)) 16 = true then
        mX12_begin_122 f_bank a_rootsTold a_rootTold a_stepOf a_keptMany k122 (i122 + 1) a_sizeOf_122 a_trainOf_122 a_carOf_122 a_placeOf_122 a_ageOf_122 a_markOf_122 a_linkTo_122 (upd a_rootTo_122 (nI i122).toNatClampNeg (a_rootTold ((8 * f_bank) + (nI i122)).toNatClampNeg))
      else none
    else
      mX12_begin_122 f_bank a_rootsTold a_rootTold a_stepOf a_keptMany k122 (i122 + 1) a_sizeOf_122 a_trainOf_122 a_carOf_122 a_placeOf_122 a_ageOf_122 a_markOf_122 a_linkTo_122 (upd a_rootTo_122 (nI i122).toNatClampNeg (-1))
def mX12_begin_78 (f_bank : Int32) (a_sizeTold : Nat → Int32) (a_linkTold : Nat → Int32) (a_linksTold : Nat → Int32) (a_ageOf_29 : Nat → Int32) (a_markOf_29 : Nat → Int32) (a_sizeOf_29 : Nat → Int32) (x1_29 : Int32) (K29 : Int32 → (Nat → Int32) → (Nat → Int32) → (Nat → Int32) → (Nat → Int32) → (Nat → Int32) → (Nat → Int32) → (Nat → Int32) → Option (Int32 × Int32 × (Nat → Int32) × (Nat → Int32) × (Nat → Int32) × (Nat → Int32) × (Nat → Int32) × (Nat → Int32) × (Nat → Int32) × (Nat → Int32) × (Nat → Int32) × (Nat → Int32))) : Nat → Int32 → (Nat → Int32) → (Nat → Int32) → (Nat → Int32) → (Nat → Int32) → Option (Int32 × Int32 × (Nat → Int32) × (Nat → Int32) × (Nat → Int32) × (Nat → Int32) × (Nat → Int32) × (Nat → Int32) × (Nat → Int32) × (Nat → Int32) × (Nat → Int32) × (Nat → Int32))
  | 0, x3_78, a_trainOf_78, a_carOf_78, a_placeOf_78, a_linkTo_78 => none
  | k78 + 1, x3_78, a_trainOf_78, a_carOf_78, a_placeOf_78, a_linkTo_78 =>
    if x3_78 < (a_linksTold ((24 * f_bank) + x1_29).toNatClampNeg) then
      if xinb ((4 * ((24 * f_bank) + x1_29)) + x3_78) 192 = true then
        if xinb ((4 * x1_29) + x3_78) 3520 = true then
          mX12_begin_78 f_bank a_sizeTold a_linkTold a_linksTold a_ageOf_29 a_markOf_29 a_sizeOf_29 x1_29 K29 k78 (x3_78 + 1) a_trainOf_78 a_carOf_78 a_placeOf_78 (upd a_linkTo_78 ((4 * x1_29) + x3_78).toNatClampNeg (a_linkTold ((4 * ((24 * f_bank) + x1_29)) + x3_78).toNatClampNeg))
        else none
      else none
    else
      K29 (x1_29 + 1) (upd a_sizeOf_29 x1_29.toNatClampNeg (a_sizeTold ((24 * f_bank) + x1_29).toNatClampNeg)) a_trainOf_78 a_carOf_78 a_placeOf_78 a_ageOf_29 a_markOf_29 a_linkTo_78
def mX12_begin_29 (f_bank : Int32) (a_unitsTold : Nat → Int32) (a_told : Nat → Int32) (a_sizeTold : Nat → Int32) (a_trainTold : Nat → Int32) (a_linkTold : Nat → Int32) (a_linksTold : Nat → Int32) (a_rootsTold : Nat → Int32) (a_rootTold : Nat → Int32) (a_stepOf : Nat → Int32) (a_rootTo : Nat → Int32) (a_keptMany : Nat → Int32)  : Nat → Int32 → (Nat → Int32) → (Nat → Int32) → (Nat → Int32) → (Nat → Int32) → (Nat → Int32) → (Nat → Int32) → (Nat → Int32) → Option (Int32 × Int32 × (Nat → Int32) × (Nat → Int32) × (Nat → Int32) × (Nat → Int32) × (Nat → Int32) × (Nat → Int32) × (Nat → Int32) × (Nat → Int32) × (Nat → Int32) × (Nat → Int32))
  | 0, x1_29, a_sizeOf_29, a_trainOf_29, a_carOf_29, a_placeOf_29, a_ageOf_29, a_markOf_29, a_linkTo_29 => none
  | k29 + 1, x1_29, a_sizeOf_29, a_trainOf_29, a_carOf_29, a_placeOf_29, a_ageOf_29, a_markOf_29, a_linkTo_29 =>
    if xinb f_bank 2 = true then
      if x1_29 < (a_told f_bank.toNatClampNeg) then
        if xinb ((24 * f_bank) + x1_29) 48 = true then
          if xinb x1_29 880 = true then
            (mX12_lays (0 : Int32) x1_29 (a_trainTold ((24 * f_bank) + x1_29).toNatClampNeg) f_bank a_unitsTold (upd a_sizeOf_29 x1_29.toNatClampNeg (a_sizeTold ((24 * f_bank) + x1_29).toNatClampNeg)) a_trainOf_29 a_carOf_29 a_placeOf_29).bind (xu fun q6_1 => xu fun q6_2 => fun q6_3 =>
              mX12_begin_78 f_bank a_sizeTold a_linkTold a_linksTold a_ageOf_29 a_markOf_29 a_sizeOf_29 x1_29 (fun zx1_29 za_sizeOf_29 za_trainOf_29 za_carOf_29 za_placeOf_29 za_ageOf_29 za_markOf_29 za_linkTo_29 => mX12_begin_29 f_bank a_unitsTold a_told a_sizeTold a_trainTold a_linkTold a_linksTold a_rootsTold a_rootTold a_stepOf a_rootTo a_keptMany k29 zx1_29 za_sizeOf_29 za_trainOf_29 za_carOf_29 za_placeOf_29 za_ageOf_29 za_markOf_29 za_linkTo_29) xfuel (0 : Int32) q6_1 q6_2 q6_3 a_linkTo_29)
          else none
        else none
      else
        mX12_begin_122 f_bank a_rootsTold a_rootTold a_stepOf a_keptMany 8 0 a_sizeOf_29 a_trainOf_29 a_carOf_29 a_placeOf_29 a_ageOf_29 a_markOf_29 a_linkTo_29 a_rootTo
    else none
def mX12_begin_9 (f_bank : Int32) (a_unitsTold : Nat → Int32) (a_told : Nat → Int32) (a_sizeTold : Nat → Int32) (a_trainTold : Nat → Int32) (a_linkTold : Nat → Int32) (a_linksTold : Nat → Int32) (a_rootsTold : Nat → Int32) (a_rootTold : Nat → Int32) (a_stepOf : Nat → Int32) (a_rootTo : Nat → Int32) (a_keptMany : Nat → Int32)  : Nat → Nat → (Nat → Int32) → (Nat → Int32) → (Nat → Int32) → (Nat → Int32) → (Nat → Int32) → (Nat → Int32) → (Nat → Int32) → Option (Int32 × Int32 × (Nat → Int32) × (Nat → Int32) × (Nat → Int32) × (Nat → Int32) × (Nat → Int32) × (Nat → Int32) × (Nat → Int32) × (Nat → Int32) × (Nat → Int32) × (Nat → Int32))
  | 0, i9, a_sizeOf_9, a_trainOf_9, a_carOf_9, a_placeOf_9, a_ageOf_9, a_markOf_9, a_linkTo_9 => mX12_begin_29 f_bank a_unitsTold a_told a_sizeTold a_trainTold a_linkTold a_linksTold a_rootsTold a_rootTold a_stepOf a_rootTo a_keptMany xfuel (0 : Int32) a_sizeOf_9 a_trainOf_9 a_carOf_9 a_placeOf_9 a_ageOf_9 a_markOf_9 a_linkTo_9
  | k9 + 1, i9, a_sizeOf_9, a_trainOf_9, a_carOf_9, a_placeOf_9, a_ageOf_9, a_markOf_9, a_linkTo_9 =>
    (mX12_clears (0 : Int32) (nI i9) a_sizeOf_9 a_trainOf_9 a_carOf_9 a_placeOf_9 a_ageOf_9 a_markOf_9 a_linkTo_9).bind (xu fun q1_1 => xu fun q1_2 => xu fun q1_3 => xu fun q1_4 => xu fun q1_5 => xu fun q1_6 => fun q1_7 =>
      mX12_begin_9 f_bank a_unitsTold a_told a_sizeTold a_trainTold a_linkTold a_linksTold a_rootsTold a_rootTold a_stepOf a_rootTo a_keptMany k9 (i9 + 1) q1_1 q1_2 q1_3 q1_4 q1_5 q1_6 q1_7)
def mX12_begin (f_bank : Int32) (a_unitsTold : Nat → Int32) (a_told : Nat → Int32) (a_sizeTold : Nat → Int32) (a_trainTold : Nat → Int32) (a_linkTold : Nat → Int32) (a_linksTold : Nat → Int32) (a_rootsTold : Nat → Int32) (a_rootTold : Nat → Int32) (a_stepOf : Nat → Int32) (a_sizeOf : Nat → Int32) (a_trainOf : Nat → Int32) (a_carOf : Nat → Int32) (a_placeOf : Nat → Int32) (a_ageOf : Nat → Int32) (a_markOf : Nat → Int32) (a_linkTo : Nat → Int32) (a_rootTo : Nat → Int32) (a_keptMany : Nat → Int32) : Option (Int32 × Int32 × (Nat → Int32) × (Nat → Int32) × (Nat → Int32) × (Nat → Int32) × (Nat → Int32) × (Nat → Int32) × (Nat → Int32) × (Nat → Int32) × (Nat → Int32) × (Nat → Int32)) :=
  mX12_begin_9 f_bank a_unitsTold a_told a_sizeTold a_trainTold a_linkTold a_linksTold a_rootsTold a_rootTold a_stepOf a_rootTo a_keptMany 40 0 a_sizeOf a_trainOf a_carOf a_placeOf a_ageOf a_markOf a_linkTo
def mX12_heap_154 (f_taped : Int32) (f_bank : Int32) (f_isHeap : Bool) (f_undos : Int32) (f_metMany : Int32) (a_refused : Nat → Int32) (a_stepOf : Nat → Int32) (a_sizeOf : Nat → Int32) (a_trainOf : Nat → Int32) (a_carOf : Nat → Int32) (a_placeOf : Nat → Int32) (a_ageOf : Nat → Int32) (a_markOf : Nat → Int32) (a_linkTo : Nat → Int32) (a_rootTo : Nat → Int32) (a_keptMany : Nat → Int32)  (x1_154 : Int32) (f_sign_154 : Int32) (f_signAt_154 : Int32) (f_signEnd_154 : Int32) (f_value_154 : Int32) (f_word_154 : Int64) (f_faultKind_154 : Int32) (f_faultPlace_154 : Int32) (f_lexAt_154 : Int32) (f_codes_154 : Int32) (f_trainRead_154 : Int32) (f_law_154 : Int32) (f_deep_154 : Int32) (f_open_154 : Int32) (f_opMany_154 : Int32) (f_operand_154 : Bool) (a_unitsTold_154 : Nat → Int32) (a_told_154 : Nat → Int32) (a_sizeTold_154 : Nat → Int32) (a_trainTold_154 : Nat → Int32) (a_linkTold_154 : Nat → Int32) (a_linksTold_154 : Nat → Int32) (a_rootsTold_154 : Nat → Int32) (a_rootTold_154 : Nat → Int32) (a_churnTold_154 : Nat → Int32) (a_sumFrom_154 : Nat → Int32) (a_sumBehind_154 : Nat → Int32) (a_codeSort_154 : Nat → Int32) (a_codeValue_154 : Nat → Int32) (a_thingName_154 : Nat → Int64) (a_frame_154 : Nat → Int32) (a_phase_154 : Nat → Int32) (a_begins_154 : Nat → Int32) (a_pair_154 : Nat → Int32) (a_base_154 : Nat → Int32) (a_ops_154 : Nat → Int32) : Option (Int32 × Int32 × Int32 × Int32 × Int32 × Int32 × Int32 × Int64 × Int32 × Int32 × Int32 × Int32 × Int32 × Int32 × Int32 × Int32 × Int32 × Int32 × Int32 × Int32 × Int32 × Bool × Bool × Int32 × Int32 × (Nat → Int32) × (Nat → Int32) × (Nat → Int32) × (Nat → Int32) × (Nat → Int32) × (Nat → Int32) × (Nat → Int32) × (Nat → Int32) × (Nat → Int32) × (Nat → Int32) × (Nat → Int32) × (Nat → Int32) × (Nat → Int32) × (Nat → Int64) × (Nat → Int32) × (Nat → Int32) × (Nat → Int32) × (Nat → Int32) × (Nat → Int32) × (Nat → Int32) × (Nat → Int32) × (Nat → Int32) × (Nat → Int32) × (Nat → Int32) × (Nat → Int32) × (Nat → Int32) × (Nat → Int32) × (Nat → Int32) × (Nat → Int32) × (Nat → Int32) × (Nat → Int32)) :=
  if 0 < f_faultKind_154 then
    (mX12_refuses (1 : Int32) a_refused).bind (xu fun q12_1 => fun q12_2 =>
      some (q12_1, (0 : Int32), f_taped, f_sign_154, f_signAt_154, f_signEnd_154, f_value_154, f_word_154, f_faultKind_154, f_faultPlace_154, f_faultKind_154, f_faultPlace_154, f_lexAt_154, f_bank, f_codes_154, 1 - f_bank, f_trainRead_154, f_law_154, f_deep_154, f_open_154, f_opMany_154, f_operand_154, f_isHeap, f_undos, f_metMany, a_unitsTold_154, a_told_154, a_sizeTold_154, a_trainTold_154, a_linkTold_154, a_linksTold_154, a_rootsTold_154, a_rootTold_154, a_churnTold_154, a_sumFrom_154, a_sumBehind_154, a_codeSort_154, a_codeValue_154, a_thingName_154, a_frame_154, a_phase_154, a_begins_154, a_pair_154, a_base_154, a_ops_154, q12_2, a_stepOf, a_sizeOf, a_trainOf, a_carOf, a_placeOf, a_ageOf, a_markOf, a_linkTo, a_rootTo, a_keptMany))
  else
    (mX12_begin (1 - f_bank) a_unitsTold_154 a_told_154 a_sizeTold_154 a_trainTold_154 a_linkTold_154 a_linksTold_154 a_rootsTold_154 a_rootTold_154 a_stepOf a_sizeOf a_trainOf a_carOf a_placeOf a_ageOf a_markOf a_linkTo a_rootTo a_keptMany).bind (xu fun q13_1 => xu fun q13_2 => xu fun q13_3 => xu fun q13_4 => xu fun q13_5 => xu fun q13_6 => xu fun q13_7 => xu fun q13_8 => xu fun q13_9 => xu fun q13_10 => xu fun q13_11 => fun q13_12 =>
      some (x1_154, (0 : Int32), f_taped, f_sign_154, f_signAt_154, f_signEnd_154, f_value_154, f_word_154, f_faultKind_154, f_faultPlace_154, f_faultKind_154, f_faultPlace_154, f_lexAt_154, 1 - f_bank, f_codes_154, 1 - f_bank, f_trainRead_154, f_law_154, f_deep_154, f_open_154, f_opMany_154, f_operand_154, true, q13_1, q13_2, a_unitsTold_154, a_told_154, a_sizeTold_154, a_trainTold_154, a_linkTold_154, a_linksTold_154, a_rootsTold_154, a_rootTold_154, a_churnTold_154, a_sumFrom_154, a_sumBehind_154, a_codeSort_154, a_codeValue_154, a_thingName_154, a_frame_154, a_phase_154, a_begins_154, a_pair_154, a_base_154, a_ops_154, a_refused, q13_3, q13_4, q13_5, q13_6, q13_7, q13_8, q13_9, q13_10, q13_11, q13_12))
def mX12_heap_125 (f_taped : Int32) (f_bank : Int32) (f_isHeap : Bool) (f_undos : Int32) (f_metMany : Int32) (a_tape : Nat → Int32) (a_refused : Nat → Int32) (a_stepOf : Nat → Int32) (a_sizeOf : Nat → Int32) (a_trainOf : Nat → Int32) (a_carOf : Nat → Int32) (a_placeOf : Nat → Int32) (a_ageOf : Nat → Int32) (a_markOf : Nat → Int32) (a_linkTo : Nat → Int32) (a_rootTo : Nat → Int32) (a_keptMany : Nat → Int32)  : Nat → Int32 → Int32 → Int32 → Int32 → Int32 → Int64 → Int32 → Int32 → Int32 → Int32 → Int32 → Int32 → Int32 → Int32 → Int32 → Bool → (Nat → Int32) → (Nat → Int32) → (Nat → Int32) → (Nat → Int32) → (Nat → Int32) → (Nat → Int32) → (Nat → Int32) → (Nat → Int32) → (Nat → Int32) → (Nat → Int32) → (Nat → Int32) → (Nat → Int32) → (Nat → Int32) → (Nat → Int64) → (Nat → Int32) → (Nat → Int32) → (Nat → Int32) → (Nat → Int32) → (Nat → Int32) → (Nat → Int32) → Option (Int32 × Int32 × Int32 × Int32 × Int32 × Int32 × Int32 × Int64 × Int32 × Int32 × Int32 × Int32 × Int32 × Int32 × Int32 × Int32 × Int32 × Int32 × Int32 × Int32 × Int32 × Bool × Bool × Int32 × Int32 × (Nat → Int32) × (Nat → Int32) × (Nat → Int32) × (Nat → Int32) × (Nat → Int32) × (Nat → Int32) × (Nat → Int32) × (Nat → Int32) × (Nat → Int32) × (Nat → Int32) × (Nat → Int32) × (Nat → Int32) × (Nat → Int32) × (Nat → Int64) × (Nat → Int32) × (Nat → Int32) × (Nat → Int32) × (Nat → Int32) × (Nat → Int32) × (Nat → Int32) × (Nat → Int32) × (Nat → Int32) × (Nat → Int32) × (Nat → Int32) × (Nat → Int32) × (Nat → Int32) × (Nat → Int32) × (Nat → Int32) × (Nat → Int32) × (Nat → Int32) × (Nat → Int32))
  | 0, x1_125, f_sign_125, f_signAt_125, f_signEnd_125, f_value_125, f_word_125, f_faultKind_125, f_faultPlace_125, f_lexAt_125, f_codes_125, f_trainRead_125, f_law_125, f_deep_125, f_open_125, f_opMany_125, f_operand_125, a_unitsTold_125, a_told_125, a_sizeTold_125, a_trainTold_125, a_linkTold_125, a_linksTold_125, a_rootsTold_125, a_rootTold_125, a_churnTold_125, a_sumFrom_125, a_sumBehind_125, a_codeSort_125, a_codeValue_125, a_thingName_125, a_frame_125, a_phase_125, a_begins_125, a_pair_125, a_base_125, a_ops_125 => none
  | k125 + 1, x1_125, f_sign_125, f_signAt_125, f_signEnd_125, f_value_125, f_word_125, f_faultKind_125, f_faultPlace_125, f_lexAt_125, f_codes_125, f_trainRead_125, f_law_125, f_deep_125, f_open_125, f_opMany_125, f_operand_125, a_unitsTold_125, a_told_125, a_sizeTold_125, a_trainTold_125, a_linkTold_125, a_linksTold_125, a_rootsTold_125, a_rootTold_125, a_churnTold_125, a_sumFrom_125, a_sumBehind_125, a_codeSort_125, a_codeValue_125, a_thingName_125, a_frame_125, a_phase_125, a_begins_125, a_pair_125, a_base_125, a_ops_125 =>
    if f_faultKind_125 = 0 then
      if f_sign_125 = 0 then
        mX12_heap_154 f_taped f_bank f_isHeap f_undos f_metMany a_refused a_stepOf a_sizeOf a_trainOf a_carOf a_placeOf a_ageOf a_markOf a_linkTo a_rootTo a_keptMany x1_125 f_sign_125 f_signAt_125 f_signEnd_125 f_value_125 f_word_125 f_faultKind_125 f_faultPlace_125 f_lexAt_125 f_codes_125 f_trainRead_125 f_law_125 f_deep_125 f_open_125 f_opMany_125 f_operand_125 a_unitsTold_125 a_told_125 a_sizeTold_125 a_trainTold_125 a_linkTold_125 a_linksTold_125 a_rootsTold_125 a_rootTold_125 a_churnTold_125 a_sumFrom_125 a_sumBehind_125 a_codeSort_125 a_codeValue_125 a_thingName_125 a_frame_125 a_phase_125 a_begins_125 a_pair_125 a_base_125 a_ops_125
      else
        (mX12_statement f_taped f_sign_125 f_signAt_125 f_signEnd_125 f_value_125 f_word_125 f_faultKind_125 f_faultPlace_125 f_lexAt_125 f_codes_125 (1 - f_bank) f_trainRead_125 f_law_125 f_deep_125 f_open_125 f_opMany_125 f_operand_125 a_tape a_unitsTold_125 a_told_125 a_sizeTold_125 a_trainTold_125 a_linkTold_125 a_linksTold_125 a_rootsTold_125 a_rootTold_125 a_churnTold_125 a_sumFrom_125 a_sumBehind_125 a_codeSort_125 a_codeValue_125 a_thingName_125 a_frame_125 a_phase_125 a_begins_125 a_pair_125 a_base_125 a_ops_125).bind (xu fun q9_1 => xu fun q9_2 => xu fun q9_3 => xu fun q9_4 => xu fun q9_5 => xu fun q9_6 => xu fun q9_7 => xu fun q9_8 => xu fun q9_9 => xu fun q9_10 => xu fun q9_11 => xu fun q9_12 => xu fun q9_13 => xu fun q9_14 => xu fun q9_15 => xu fun q9_16 => xu fun q9_17 => xu fun q9_18 => xu fun q9_19 => xu fun q9_20 => xu fun q9_21 => xu fun q9_22 => xu fun q9_23 => xu fun q9_24 => xu fun q9_25 => xu fun q9_26 => xu fun q9_27 => xu fun q9_28 => xu fun q9_29 => xu fun q9_30 => xu fun q9_31 => xu fun q9_32 => xu fun q9_33 => fun q9_34 =>
          (mX12_finishes (x1_125 + 1) f_taped q9_1 q9_2 q9_3 q9_4 q9_5 q9_6 q9_7 q9_8 a_tape).bind (xu fun q10_1 => xu fun q10_2 => xu fun q10_3 => xu fun q10_4 => xu fun q10_5 => xu fun q10_6 => xu fun q10_7 => fun q10_8 =>
            mX12_heap_125 f_taped f_bank f_isHeap f_undos f_metMany a_tape a_refused a_stepOf a_sizeOf a_trainOf a_carOf a_placeOf a_ageOf a_markOf a_linkTo a_rootTo a_keptMany k125 (x1_125 + 1) q10_1 q10_2 q10_3 q10_4 q10_5 q10_6 q10_7 q10_8 q9_9 q9_10 q9_11 q9_12 q9_13 q9_14 q9_15 a_unitsTold_125 q9_16 q9_17 q9_18 q9_19 q9_20 q9_21 q9_22 q9_23 q9_24 q9_25 q9_26 q9_27 q9_28 q9_29 q9_30 q9_31 q9_32 q9_33 q9_34))
    else
      mX12_heap_154 f_taped f_bank f_isHeap f_undos f_metMany a_refused a_stepOf a_sizeOf a_trainOf a_carOf a_placeOf a_ageOf a_markOf a_linkTo a_rootTo a_keptMany x1_125 f_sign_125 f_signAt_125 f_signEnd_125 f_value_125 f_word_125 f_faultKind_125 f_faultPlace_125 f_lexAt_125 f_codes_125 f_trainRead_125 f_law_125 f_deep_125 f_open_125 f_opMany_125 f_operand_125 a_unitsTold_125 a_told_125 a_sizeTold_125 a_trainTold_125 a_linkTold_125 a_linksTold_125 a_rootsTold_125 a_rootTold_125 a_churnTold_125 a_sumFrom_125 a_sumBehind_125 a_codeSort_125 a_codeValue_125 a_thingName_125 a_frame_125 a_phase_125 a_begins_125 a_pair_125 a_base_125 a_ops_125
def mX12_heap_80 (f_taped : Int32) (f_value : Int32) (f_word : Int64) (f_bank : Int32) (f_law : Int32) (f_deep : Int32) (f_open : Int32) (f_opMany : Int32) (f_operand : Bool) (f_isHeap : Bool) (f_undos : Int32) (f_metMany : Int32) (a_tape : Nat → Int32) (a_unitsTold : Nat → Int32) (a_told : Nat → Int32) (a_sizeTold : Nat → Int32) (a_trainTold : Nat → Int32) (a_linkTold : Nat → Int32) (a_linksTold : Nat → Int32) (a_rootsTold : Nat → Int32) (a_rootTold : Nat → Int32) (a_churnTold : Nat → Int32) (a_sumBehind : Nat → Int32) (a_codeSort : Nat → Int32) (a_codeValue : Nat → Int32) (a_thingName : Nat → Int64) (a_frame : Nat → Int32) (a_phase : Nat → Int32) (a_begins : Nat → Int32) (a_pair : Nat → Int32) (a_base : Nat → Int32) (a_ops : Nat → Int32) (a_refused : Nat → Int32) (a_stepOf : Nat → Int32) (a_sizeOf : Nat → Int32) (a_trainOf : Nat → Int32) (a_carOf : Nat → Int32) (a_placeOf : Nat → Int32) (a_ageOf : Nat → Int32) (a_markOf : Nat → Int32) (a_linkTo : Nat → Int32) (a_rootTo : Nat → Int32) (a_keptMany : Nat → Int32)  : Nat → Int32 → (Nat → Int32) → Option (Int32 × Int32 × Int32 × Int32 × Int32 × Int32 × Int32 × Int64 × Int32 × Int32 × Int32 × Int32 × Int32 × Int32 × Int32 × Int32 × Int32 × Int32 × Int32 × Int32 × Int32 × Bool × Bool × Int32 × Int32 × (Nat → Int32) × (Nat → Int32) × (Nat → Int32) × (Nat → Int32) × (Nat → Int32) × (Nat → Int32) × (Nat → Int32) × (Nat → Int32) × (Nat → Int32) × (Nat → Int32) × (Nat → Int32) × (Nat → Int32) × (Nat → Int32) × (Nat → Int64) × (Nat → Int32) × (Nat → Int32) × (Nat → Int32) × (Nat → Int32) × (Nat → Int32) × (Nat → Int32) × (Nat → Int32) × (Nat → Int32) × (Nat → Int32) × (Nat → Int32) × (Nat → Int32) × (Nat → Int32) × (Nat → Int32) × (Nat → Int32) × (Nat → Int32) × (Nat → Int32) × (Nat → Int32))
  | 0, x1_80, a_sumFrom_80 => none
  | k80 + 1, x1_80, a_sumFrom_80 =>
    if x1_80 < ((3 * (1 - f_bank)) + 3) then
      if xinb x1_80 6 = true then
        mX12_heap_80 f_taped f_value f_word f_bank f_law f_deep f_open f_opMany f_operand f_isHeap f_undos f_metMany a_tape a_unitsTold a_told a_sizeTold a_trainTold a_linkTold a_linksTold a_rootsTold a_rootTold a_churnTold a_sumBehind a_codeSort a_codeValue a_thingName a_frame a_phase a_begins a_pair a_base a_ops a_refused a_stepOf a_sizeOf a_trainOf a_carOf a_placeOf a_ageOf a_markOf a_linkTo a_rootTo a_keptMany k80 (x1_80 + 1) (upd a_sumFrom_80 x1_80.toNatClampNeg (-1))
      else none
    else
      (mX12_ahead f_taped (0 : Int32) f_value f_word a_tape).bind (xu fun q4_1 => xu fun q4_2 => xu fun q4_3 => xu fun q4_4 => xu fun q4_5 => fun q4_6 =>
        (mX12_unitsIs f_taped q4_1 q4_2 q4_3 q4_4 q4_5 (0 : Int32) ((-1) : Int32) q4_6 (1 - f_bank) a_tape a_unitsTold).bind (xu fun q5_1 => xu fun q5_2 => xu fun q5_3 => xu fun q5_4 => xu fun q5_5 => xu fun q5_6 => xu fun q5_7 => xu fun q5_8 => fun q5_9 =>
          (mX12_finishes (1 : Int32) f_taped q5_1 q5_2 q5_3 q5_4 q5_5 q5_6 q5_7 q5_8 a_tape).bind (xu fun q6_1 => xu fun q6_2 => xu fun q6_3 => xu fun q6_4 => xu fun q6_5 => xu fun q6_6 => xu fun q6_7 => fun q6_8 =>
            mX12_heap_125 f_taped f_bank f_isHeap f_undos f_metMany a_tape a_refused a_stepOf a_sizeOf a_trainOf a_carOf a_placeOf a_ageOf a_markOf a_linkTo a_rootTo a_keptMany xfuel (1 : Int32) q6_1 q6_2 q6_3 q6_4 q6_5 q6_6 q6_7 q6_8 (0 : Int32) (0 : Int32) f_law f_deep f_open f_opMany f_operand q5_9 (upd a_told (1 - f_bank).toNatClampNeg 0) a_sizeTold a_trainTold a_linkTold a_linksTold (upd a_rootsTold (1 - f_bank).toNatClampNeg 0) a_rootTold (upd a_churnTold (1 - f_bank).toNatClampNeg 0) a_sumFrom_80 a_sumBehind a_codeSort a_codeValue a_thingName a_frame a_phase a_begins a_pair a_base a_ops)))
def mX12_heap (f_taped : Int32) (f_value : Int32) (f_word : Int64) (f_bank : Int32) (f_law : Int32) (f_deep : Int32) (f_open : Int32) (f_opMany : Int32) (f_operand : Bool) (f_isHeap : Bool) (f_undos : Int32) (f_metMany : Int32) (a_tape : Nat → Int32) (a_unitsTold : Nat → Int32) (a_told : Nat → Int32) (a_sizeTold : Nat → Int32) (a_trainTold : Nat → Int32) (a_linkTold : Nat → Int32) (a_linksTold : Nat → Int32) (a_rootsTold : Nat → Int32) (a_rootTold : Nat → Int32) (a_churnTold : Nat → Int32) (a_sumFrom : Nat → Int32) (a_sumBehind : Nat → Int32) (a_codeSort : Nat → Int32) (a_codeValue : Nat → Int32) (a_thingName : Nat → Int64) (a_frame : Nat → Int32) (a_phase : Nat → Int32) (a_begins : Nat → Int32) (a_pair : Nat → Int32) (a_base : Nat → Int32) (a_ops : Nat → Int32) (a_refused : Nat → Int32) (a_stepOf : Nat → Int32) (a_sizeOf : Nat → Int32) (a_trainOf : Nat → Int32) (a_carOf : Nat → Int32) (a_placeOf : Nat → Int32) (a_ageOf : Nat → Int32) (a_markOf : Nat → Int32) (a_linkTo : Nat → Int32) (a_rootTo : Nat → Int32) (a_keptMany : Nat → Int32) : Option (Int32 × Int32 × Int32 × Int32 × Int32 × Int32 × Int32 × Int64 × Int32 × Int32 × Int32 × Int32 × Int32 × Int32 × Int32 × Int32 × Int32 × Int32 × Int32 × Int32 × Int32 × Bool × Bool × Int32 × Int32 × (Nat → Int32) × (Nat → Int32) × (Nat → Int32) × (Nat → Int32) × (Nat → Int32) × (Nat → Int32) × (Nat → Int32) × (Nat → Int32) × (Nat → Int32) × (Nat → Int32) × (Nat → Int32) × (Nat → Int32) × (Nat → Int32) × (Nat → Int64) × (Nat → Int32) × (Nat → Int32) × (Nat → Int32) × (Nat → Int32) × (Nat → Int32) × (Nat → Int32) × (Nat → Int32) × (Nat → Int32) × (Nat → Int32) × (Nat → Int32) × (Nat → Int32) × (Nat → Int32) × (Nat → Int32) × (Nat → Int32) × (Nat → Int32) × (Nat → Int32) × (Nat → Int32)) :=
  if xinb (1 - f_bank) 2 = true then
    mX12_heap_80 f_taped f_value f_word f_bank f_law f_deep f_open f_opMany f_operand f_isHeap f_undos f_metMany a_tape a_unitsTold a_told a_sizeTold a_trainTold a_linkTold a_linksTold a_rootsTold a_rootTold a_churnTold a_sumBehind a_codeSort a_codeValue a_thingName a_frame a_phase a_begins a_pair a_base a_ops a_refused a_stepOf a_sizeOf a_trainOf a_carOf a_placeOf a_ageOf a_markOf a_linkTo a_rootTo a_keptMany xfuel (3 * (1 - f_bank)) a_sumFrom
  else none
def mX12_fault (v_what : Int32) (f_toldKind : Int32) (f_toldPlace : Int32) : Int32 :=
  if v_what = 0 then
    f_toldKind
  else
    if v_what = 1 then
      f_toldPlace
    else
      ((-1) : Int32)
def mX12_status (v_what : Int32) (a_refused : Nat → Int32) : Option (Int32) :=
  if (mX12_is v_what (0 : Int32) (5 : Int32)) = true then
    if xinb v_what 6 = true then
      some (a_refused v_what.toNatClampNeg)
    else none
  else
    some ((-1) : Int32)
