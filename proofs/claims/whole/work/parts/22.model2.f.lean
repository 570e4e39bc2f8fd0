def mX12_operand_289 (f_size : Int32) (f_codes : Int32) (f_deep : Int32) (f_open : Int32) (f_opMany : Int32) (a_tape : Nat → Int32) (a_codeSort : Nat → Int32) (a_codeValue : Nat → Int32) (a_frame : Nat → Int32) (a_phase : Nat → Int32) (a_begins : Nat → Int32) (a_pair : Nat → Int32) (a_base : Nat → Int32) (a_ops : Nat → Int32)  (x3_289 : Int32) (s0_289 : Int32) (f_sign_289 : Int32) (f_signAt_289 : Int32) (f_signEnd_289 : Int32) (f_value_289 : Int32) (f_word_289 : Int64) (f_faultKind_289 : Int32) (f_faultPlace_289 : Int32) (f_lexAt_289 : Int32) : Option (Bool × Int32 × Int32 × Int32 × Int32 × Int64 × Int32 × Int32 × Int32 × Int32 × Int32 × Int32 × Int32 × (Nat → Int32) × (Nat → Int32) × (Nat → Int32) × (Nat → Int32) × (Nat → Int32) × (Nat → Int32) × (Nat → Int32) × (Nat → Int32)) :=
  (mX12_opens s0_289 f_size f_sign_289 f_signAt_289 f_signEnd_289 f_value_289 f_word_289 f_faultKind_289 f_faultPlace_289 f_lexAt_289 f_deep f_open f_opMany a_tape a_frame a_phase (upd a_begins (f_deep - 1).toNatClampNeg 0) a_base).bind (xu fun q49_1 => xu fun q49_2 => xu fun q49_3 => xu fun q49_4 => xu fun q49_5 => xu fun q49_6 => xu fun q49_7 => xu fun q49_8 => xu fun q49_9 => xu fun q49_10 => xu fun q49_11 => xu fun q49_12 => xu fun q49_13 => fun q49_14 =>
    if q49_6 = 0 then
      if xinb (q49_9 - 1) 20 = true then
        some (false, q49_1, q49_2, q49_3, q49_4, q49_5, q49_6, q49_7, q49_8, f_codes, q49_9, q49_10, f_opMany, a_codeSort, a_codeValue, q49_11, q49_12, q49_13, upd a_pair (q49_9 - 1).toNatClampNeg x3_289, q49_14, a_ops)
      else none
    else
      some (false, q49_1, q49_2, q49_3, q49_4, q49_5, q49_6, q49_7, q49_8, f_codes, q49_9, q49_10, f_opMany, a_codeSort, a_codeValue, q49_11, q49_12, q49_13, a_pair, q49_14, a_ops))
def mX12_operand_276 (f_size : Int32) (f_codes : Int32) (f_deep : Int32) (f_open : Int32) (f_opMany : Int32) (a_tape : Nat → Int32) (a_codeSort : Nat → Int32) (a_codeValue : Nat → Int32) (a_frame : Nat → Int32) (a_phase : Nat → Int32) (a_begins : Nat → Int32) (a_pair : Nat → Int32) (a_base : Nat → Int32) (a_ops : Nat → Int32)  (x3_276 : Int32) (f_sign_276 : Int32) (f_signAt_276 : Int32) (f_signEnd_276 : Int32) (f_value_276 : Int32) (f_word_276 : Int64) (f_faultKind_276 : Int32) (f_faultPlace_276 : Int32) (f_lexAt_276 : Int32) : Option (Bool × Int32 × Int32 × Int32 × Int32 × Int64 × Int32 × Int32 × Int32 × Int32 × Int32 × Int32 × Int32 × (Nat → Int32) × (Nat → Int32) × (Nat → Int32) × (Nat → Int32) × (Nat → Int32) × (Nat → Int32) × (Nat → Int32) × (Nat → Int32)) :=
  if x3_276 = 44 then
    mX12_operand_289 f_size f_codes f_deep f_open f_opMany a_tape a_codeSort a_codeValue a_frame a_phase a_begins a_pair a_base a_ops x3_276 (6 : Int32) f_sign_276 f_signAt_276 f_signEnd_276 f_value_276 f_word_276 f_faultKind_276 f_faultPlace_276 f_lexAt_276
  else
    mX12_operand_289 f_size f_codes f_deep f_open f_opMany a_tape a_codeSort a_codeValue a_frame a_phase a_begins a_pair a_base a_ops x3_276 (3 : Int32) f_sign_276 f_signAt_276 f_signEnd_276 f_value_276 f_word_276 f_faultKind_276 f_faultPlace_276 f_lexAt_276
def mX12_operand_249 (f_size : Int32) (f_signEnd : Int32) (f_value : Int32) (f_word : Int64) (f_codes : Int32) (f_deep : Int32) (f_open : Int32) (f_opMany : Int32) (a_tape : Nat → Int32) (a_codeSort : Nat → Int32) (a_codeValue : Nat → Int32) (a_frame : Nat → Int32) (a_phase : Nat → Int32) (a_begins : Nat → Int32) (a_pair : Nat → Int32) (a_base : Nat → Int32) (a_ops : Nat → Int32)  (s0_249 : Int32) (f_faultKind_249 : Int32) (f_faultPlace_249 : Int32) : Option (Bool × Int32 × Int32 × Int32 × Int32 × Int64 × Int32 × Int32 × Int32 × Int32 × Int32 × Int32 × Int32 × (Nat → Int32) × (Nat → Int32) × (Nat → Int32) × (Nat → Int32) × (Nat → Int32) × (Nat → Int32) × (Nat → Int32) × (Nat → Int32)) :=
  (mX12_ahead f_size f_signEnd f_value f_word a_tape).bind (xu fun q44_1 => xu fun q44_2 => xu fun q44_3 => xu fun q44_4 => xu fun q44_5 => fun q44_6 =>
    xlet (mX12_lex f_faultKind_249 f_faultPlace_249 q44_6) (xu fun q45_1 => fun q45_2 =>
      if (mX12_isSign (40 : Int32) q44_1 q44_4) = true then
        mX12_operand_276 f_size f_codes f_deep f_open f_opMany a_tape a_codeSort a_codeValue a_frame a_phase a_begins a_pair a_base a_ops s0_249 q44_1 q44_2 q44_3 q44_4 q44_5 q45_1 q45_2 q44_6
      else
        xlet (mX12_blame (1 : Int32) q44_2 q45_1 q45_2) (xu fun q47_1 => fun q47_2 =>
          mX12_operand_276 f_size f_codes f_deep f_open f_opMany a_tape a_codeSort a_codeValue a_frame a_phase a_begins a_pair a_base a_ops s0_249 q44_1 q44_2 q44_3 q44_4 q44_5 q47_1 q47_2 q44_6)))
def mX12_operand_217 (f_size : Int32) (f_sign : Int32) (f_signEnd : Int32) (f_value : Int32) (f_word : Int64) (f_codes : Int32) (f_deep : Int32) (f_open : Int32) (f_opMany : Int32) (a_tape : Nat → Int32) (a_codeSort : Nat → Int32) (a_codeValue : Nat → Int32) (a_frame : Nat → Int32) (a_phase : Nat → Int32) (a_begins : Nat → Int32) (a_pair : Nat → Int32) (a_base : Nat → Int32) (a_ops : Nat → Int32)  (f_faultKind_217 : Int32) (f_faultPlace_217 : Int32) : Option (Bool × Int32 × Int32 × Int32 × Int32 × Int64 × Int32 × Int32 × Int32 × Int32 × Int32 × Int32 × Int32 × (Nat → Int32) × (Nat → Int32) × (Nat → Int32) × (Nat → Int32) × (Nat → Int32) × (Nat → Int32) × (Nat → Int32) × (Nat → Int32)) :=
  if (mX12_isWord (7170414 : Int64) f_sign f_word) = true then
    mX12_operand_249 f_size f_signEnd f_value f_word f_codes f_deep f_open f_opMany a_tape a_codeSort a_codeValue a_frame a_phase a_begins a_pair a_base a_ops (36 : Int32) f_faultKind_217 f_faultPlace_217
  else
    if (mX12_isWord (7168376 : Int64) f_sign f_word) = true then
      mX12_operand_249 f_size f_signEnd f_value f_word f_codes f_deep f_open f_opMany a_tape a_codeSort a_codeValue a_frame a_phase a_begins a_pair a_base a_ops (37 : Int32) f_faultKind_217 f_faultPlace_217
    else
      mX12_operand_249 f_size f_signEnd f_value f_word f_codes f_deep f_open f_opMany a_tape a_codeSort a_codeValue a_frame a_phase a_begins a_pair a_base a_ops (44 : Int32) f_faultKind_217 f_faultPlace_217
def mX12_operand_474 (f_size : Int32) (f_sign : Int32) (f_signAt : Int32) (f_signEnd : Int32) (f_value : Int32) (f_word : Int64) (f_lexAt : Int32) (f_codes : Int32) (f_in : Int32) (f_deep : Int32) (f_open : Int32) (f_opMany : Int32) (a_tape : Nat → Int32) (a_codeSort : Nat → Int32) (a_codeValue : Nat → Int32) (a_frame : Nat → Int32) (a_phase : Nat → Int32) (a_begins : Nat → Int32) (a_pair : Nat → Int32) (a_base : Nat → Int32) (a_ops : Nat → Int32)  (x3_474 : Int32) (f_faultKind_474 : Int32) (f_faultPlace_474 : Int32) : Option (Bool × Int32 × Int32 × Int32 × Int32 × Int64 × Int32 × Int32 × Int32 × Int32 × Int32 × Int32 × Int32 × (Nat → Int32) × (Nat → Int32) × (Nat → Int32) × (Nat → Int32) × (Nat → Int32) × (Nat → Int32) × (Nat → Int32) × (Nat → Int32)) :=
  if 0 < f_faultKind_474 then
    some (true, f_sign, f_signAt, f_signEnd, f_value, f_word, f_faultKind_474, f_faultPlace_474, f_lexAt, f_codes, f_deep, f_open, f_opMany, a_codeSort, a_codeValue, a_frame, a_phase, upd a_begins (f_deep - 1).toNatClampNeg 0, a_pair, a_base, a_ops)
  else
    (mX12_add x3_474 f_value f_codes f_in a_codeSort a_codeValue).bind (xu fun q40_1 => xu fun q40_2 => fun q40_3 =>
      (mX12_ahead f_size f_signEnd f_value f_word a_tape).bind (xu fun q41_1 => xu fun q41_2 => xu fun q41_3 => xu fun q41_4 => xu fun q41_5 => fun q41_6 =>
        some (true, q41_1, q41_2, q41_3, q41_4, q41_5, f_faultKind_474, f_faultPlace_474, q41_6, q40_1, f_deep, f_open, f_opMany, q40_2, q40_3, a_frame, a_phase, upd a_begins (f_deep - 1).toNatClampNeg 0, a_pair, a_base, a_ops)))
def mX12_operand_460 (f_size : Int32) (f_sign : Int32) (f_signAt : Int32) (f_signEnd : Int32) (f_value : Int32) (f_word : Int64) (f_lexAt : Int32) (f_codes : Int32) (f_in : Int32) (f_deep : Int32) (f_open : Int32) (f_opMany : Int32) (a_tape : Nat → Int32) (a_codeSort : Nat → Int32) (a_codeValue : Nat → Int32) (a_frame : Nat → Int32) (a_phase : Nat → Int32) (a_begins : Nat → Int32) (a_pair : Nat → Int32) (a_base : Nat → Int32) (a_ops : Nat → Int32)  (x3_460 : Int32) (f_faultKind_460 : Int32) (f_faultPlace_460 : Int32) : Option (Bool × Int32 × Int32 × Int32 × Int32 × Int64 × Int32 × Int32 × Int32 × Int32 × Int32 × Int32 × Int32 × (Nat → Int32) × (Nat → Int32) × (Nat → Int32) × (Nat → Int32) × (Nat → Int32) × (Nat → Int32) × (Nat → Int32) × (Nat → Int32)) :=
  if x3_460 = (-1) then
    xlet (mX12_blame (1 : Int32) f_signAt f_faultKind_460 f_faultPlace_460) (xu fun q38_1 => fun q38_2 =>
      mX12_operand_474 f_size f_sign f_signAt f_signEnd f_value f_word f_lexAt f_codes f_in f_deep f_open f_opMany a_tape a_codeSort a_codeValue a_frame a_phase a_begins a_pair a_base a_ops x3_460 q38_1 q38_2)
  else
    mX12_operand_474 f_size f_sign f_signAt f_signEnd f_value f_word f_lexAt f_codes f_in f_deep f_open f_opMany a_tape a_codeSort a_codeValue a_frame a_phase a_begins a_pair a_base a_ops x3_460 f_faultKind_460 f_faultPlace_460
def mX12_operand_455 (f_size : Int32) (f_sign : Int32) (f_signAt : Int32) (f_signEnd : Int32) (f_value : Int32) (f_word : Int64) (f_lexAt : Int32) (f_codes : Int32) (f_in : Int32) (f_deep : Int32) (f_open : Int32) (f_opMany : Int32) (a_tape : Nat → Int32) (a_codeSort : Nat → Int32) (a_codeValue : Nat → Int32) (a_frame : Nat → Int32) (a_phase : Nat → Int32) (a_begins : Nat → Int32) (a_pair : Nat → Int32) (a_base : Nat → Int32) (a_ops : Nat → Int32)  (x3_455 : Int32) (s0_455 : Int32) (s1_455 : Int32) (f_faultKind_455 : Int32) (f_faultPlace_455 : Int32) : Option (Bool × Int32 × Int32 × Int32 × Int32 × Int64 × Int32 × Int32 × Int32 × Int32 × Int32 × Int32 × Int32 × (Nat → Int32) × (Nat → Int32) × (Nat → Int32) × (Nat → Int32) × (Nat → Int32) × (Nat → Int32) × (Nat → Int32) × (Nat → Int32)) :=
  if s1_455 = s0_455 then
    mX12_operand_460 f_size f_sign f_signAt f_signEnd f_value f_word f_lexAt f_codes f_in f_deep f_open f_opMany a_tape a_codeSort a_codeValue a_frame a_phase a_begins a_pair a_base a_ops x3_455 f_faultKind_455 f_faultPlace_455
  else
    mX12_operand_460 f_size f_sign f_signAt f_signEnd f_value f_word f_lexAt f_codes f_in f_deep f_open f_opMany a_tape a_codeSort a_codeValue a_frame a_phase a_begins a_pair a_base a_ops ((-1) : Int32) f_faultKind_455 f_faultPlace_455
def mX12_operand_442 (f_size : Int32) (f_sign : Int32) (f_signAt : Int32) (f_signEnd : Int32) (f_value : Int32) (f_word : Int64) (f_lexAt : Int32) (f_codes : Int32) (f_in : Int32) (f_law : Int32) (f_deep : Int32) (f_open : Int32) (f_opMany : Int32) (a_tape : Nat → Int32) (a_codeSort : Nat → Int32) (a_codeValue : Nat → Int32) (a_frame : Nat → Int32) (a_phase : Nat → Int32) (a_begins : Nat → Int32) (a_pair : Nat → Int32) (a_base : Nat → Int32) (a_ops : Nat → Int32)  (x3_442 : Int32) (s0_442 : Int32) (f_faultKind_442 : Int32) (f_faultPlace_442 : Int32) : Option (Bool × Int32 × Int32 × Int32 × Int32 × Int64 × Int32 × Int32 × Int32 × Int32 × Int32 × Int32 × Int32 × (Nat → Int32) × (Nat → Int32) × (Nat → Int32) × (Nat → Int32) × (Nat → Int32) × (Nat → Int32) × (Nat → Int32) × (Nat → Int32)) :=
  if f_law = 1 then
    mX12_operand_455 f_size f_sign f_signAt f_signEnd f_value f_word f_lexAt f_codes f_in f_deep f_open f_opMany a_tape a_codeSort a_codeValue a_frame a_phase a_begins a_pair a_base a_ops x3_442 (1 : Int32) s0_442 f_faultKind_442 f_faultPlace_442
  else
    mX12_operand_455 f_size f_sign f_signAt f_signEnd f_value f_word f_lexAt f_codes f_in f_deep f_open f_opMany a_tape a_codeSort a_codeValue a_frame a_phase a_begins a_pair a_base a_ops x3_442 (0 : Int32) s0_442 f_faultKind_442 f_faultPlace_442
def mX12_operand_426 (f_size : Int32) (f_sign : Int32) (f_signAt : Int32) (f_signEnd : Int32) (f_value : Int32) (f_word : Int64) (f_lexAt : Int32) (f_codes : Int32) (f_in : Int32) (f_law : Int32) (f_deep : Int32) (f_open : Int32) (f_opMany : Int32) (a_tape : Nat → Int32) (a_codeSort : Nat → Int32) (a_codeValue : Nat → Int32) (a_frame : Nat → Int32) (a_phase : Nat → Int32) (a_begins : Nat → Int32) (a_pair : Nat → Int32) (a_base : Nat → Int32) (a_ops : Nat → Int32)  (s0_426 : Int32) (f_faultKind_426 : Int32) (f_faultPlace_426 : Int32) : Option (Bool × Int32 × Int32 × Int32 × Int32 × Int64 × Int32 × Int32 × Int32 × Int32 × Int32 × Int32 × Int32 × (Nat → Int32) × (Nat → Int32) × (Nat → Int32) × (Nat → Int32) × (Nat → Int32) × (Nat → Int32) × (Nat → Int32) × (Nat → Int32)) :=
  if 1 < s0_426 then
    if s0_426 < 5 then
      mX12_operand_442 f_size f_sign f_signAt f_signEnd f_value f_word f_lexAt f_codes f_in f_law f_deep f_open f_opMany a_tape a_codeSort a_codeValue a_frame a_phase a_begins a_pair a_base a_ops s0_426 (0 : Int32) f_faultKind_426 f_faultPlace_426
    else
      mX12_operand_442 f_size f_sign f_signAt f_signEnd f_value f_word f_lexAt f_codes f_in f_law f_deep f_open f_opMany a_tape a_codeSort a_codeValue a_frame a_phase a_begins a_pair a_base a_ops s0_426 (1 : Int32) f_faultKind_426 f_faultPlace_426
  else
    mX12_operand_460 f_size f_sign f_signAt f_signEnd f_value f_word f_lexAt f_codes f_in f_deep f_open f_opMany a_tape a_codeSort a_codeValue a_frame a_phase a_begins a_pair a_base a_ops s0_426 f_faultKind_426 f_faultPlace_426
def mX12_operand_171 (f_size : Int32) (f_sign : Int32) (f_signAt : Int32) (f_signEnd : Int32) (f_value : Int32) (f_word : Int64) (f_lexAt : Int32) (f_codes : Int32) (f_in : Int32) (f_law : Int32) (f_deep : Int32) (f_open : Int32) (f_opMany : Int32) (a_tape : Nat → Int32) (a_codeSort : Nat → Int32) (a_codeValue : Nat → Int32) (a_frame : Nat → Int32) (a_phase : Nat → Int32) (a_begins : Nat → Int32) (a_pair : Nat → Int32) (a_base : Nat → Int32) (a_ops : Nat → Int32)  (f_faultKind_171 : Int32) (f_faultPlace_171 : Int32) : Option (Bool × Int32 × Int32 × Int32 × Int32 × Int64 × Int32 × Int32 × Int32 × Int32 × Int32 × Int32 × Int32 × (Nat → Int32) × (Nat → Int32) × (Nat → Int32) × (Nat → Int32) × (Nat → Int32) × (Nat → Int32) × (Nat → Int32) × (Nat → Int32)) :=
  if (mX12_isSign (40 : Int32) f_sign f_value) = true then
    (mX12_opens (2 : Int32) f_size f_sign f_signAt f_signEnd f_value f_word f_faultKind_171 f_faultPlace_171 f_lexAt f_deep f_open f_opMany a_tape a_frame a_phase (upd a_begins (f_deep - 1).toNatClampNeg 0) a_base).bind (xu fun q21_1 => xu fun q21_2 => xu fun q21_3 => xu fun q21_4 => xu fun q21_5 => xu fun q21_6 => xu fun q21_7 => xu fun q21_8 => xu fun q21_9 => xu fun q21_10 => xu fun q21_11 => xu fun q21_12 => xu fun q21_13 => fun q21_14 =>
      some (false, q21_1, q21_2, q21_3, q21_4, q21_5, q21_6, q21_7, q21_8, f_codes, q21_9, q21_10, f_opMany, a_codeSort, a_codeValue, q21_11, q21_12, q21_13, a_pair, q21_14, a_ops))
  else
    if (mX12_isWord (7170414 : Int64) f_sign f_word) = true then
      mX12_operand_217 f_size f_sign f_signEnd f_value f_word f_codes f_deep f_open f_opMany a_tape a_codeSort a_codeValue a_frame a_phase a_begins a_pair a_base a_ops f_faultKind_171 f_faultPlace_171
    else
      if (mX12_isWord (7168376 : Int64) f_sign f_word) = true then
        mX12_operand_217 f_size f_sign f_signEnd f_value f_word f_codes f_deep f_open f_opMany a_tape a_codeSort a_codeValue a_frame a_phase a_begins a_pair a_base a_ops f_faultKind_171 f_faultPlace_171
      else
        if (mX12_isWord (26982 : Int64) f_sign f_word) = true then
          mX12_operand_217 f_size f_sign f_signEnd f_value f_word f_codes f_deep f_open f_opMany a_tape a_codeSort a_codeValue a_frame a_phase a_begins a_pair a_base a_ops f_faultKind_171 f_faultPlace_171
        else
          if f_sign = 2 then
            mX12_operand_426 f_size f_sign f_signAt f_signEnd f_value f_word f_lexAt f_codes f_in f_law f_deep f_open f_opMany a_tape a_codeSort a_codeValue a_frame a_phase a_begins a_pair a_base a_ops (0 : Int32) f_faultKind_171 f_faultPlace_171
          else
            if (mX12_isWord (1937007984 : Int64) f_sign f_word) = true then
              mX12_operand_426 f_size f_sign f_signAt f_signEnd f_value f_word f_lexAt f_codes f_in f_law f_deep f_open f_opMany a_tape a_codeSort a_codeValue a_frame a_phase a_begins a_pair a_base a_ops (1 : Int32) f_faultKind_171 f_faultPlace_171
            else
              if (mX12_isWord (1936292453 : Int64) f_sign f_word) = true then
                mX12_operand_426 f_size f_sign f_signAt f_signEnd f_value f_word f_lexAt f_codes f_in f_law f_deep f_open f_opMany a_tape a_codeSort a_codeValue a_frame a_phase a_begins a_pair a_base a_ops (2 : Int32) f_faultKind_171 f_faultPlace_171
              else
                if (mX12_isWord (1919247987 : Int64) f_sign f_word) = true then
                  mX12_operand_426 f_size f_sign f_signAt f_signEnd f_value f_word f_lexAt f_codes f_in f_law f_deep f_open f_opMany a_tape a_codeSort a_codeValue a_frame a_phase a_begins a_pair a_base a_ops (3 : Int32) f_faultKind_171 f_faultPlace_171
                else
                  if (mX12_isWord (6383461 : Int64) f_sign f_word) = true then
                    mX12_operand_426 f_size f_sign f_signAt f_signEnd f_value f_word f_lexAt f_codes f_in f_law f_deep f_open f_opMany a_tape a_codeSort a_codeValue a_frame a_phase a_begins a_pair a_base a_ops (4 : Int32) f_faultKind_171 f_faultPlace_171
                  else
                    if (mX12_isWord (128034609393267 : Int64) f_sign f_word) = true then
                      mX12_operand_426 f_size f_sign f_signAt f_signEnd f_value f_word f_lexAt f_codes f_in f_law f_deep f_open f_opMany a_tape a_codeSort a_codeValue a_frame a_phase a_begins a_pair a_base a_ops (5 : Int32) f_faultKind_171 f_faultPlace_171
                    else
                      if (mX12_isWord (1667330675 : Int64) f_sign f_word) = true then
                        mX12_operand_426 f_size f_sign f_signAt f_signEnd f_value f_word f_lexAt f_codes f_in f_law f_deep f_open f_opMany a_tape a_codeSort a_codeValue a_frame a_phase a_begins a_pair a_base a_ops (6 : Int32) f_faultKind_171 f_faultPlace_171
                      else
                        if (mX12_isWord (1819238756 : Int64) f_sign f_word) = true then
                          mX12_operand_426 f_size f_sign f_signAt f_signEnd f_value f_word f_lexAt f_codes f_in f_law f_deep f_open f_opMany a_tape a_codeSort a_codeValue a_frame a_phase a_begins a_pair a_base a_ops (7 : Int32) f_faultKind_171 f_faultPlace_171
                        else
                          mX12_operand_426 f_size f_sign f_signAt f_signEnd f_value f_word f_lexAt f_codes f_in f_law f_deep f_open f_opMany a_tape a_codeSort a_codeValue a_frame a_phase a_begins a_pair a_base a_ops ((-1) : Int32) f_faultKind_171 f_faultPlace_171
def mX12_operand_137 (f_size : Int32) (f_sign : Int32) (f_signAt : Int32) (f_signEnd : Int32) (f_value : Int32) (f_word : Int64) (f_lexAt : Int32) (f_codes : Int32) (f_in : Int32) (f_law : Int32) (f_deep : Int32) (f_open : Int32) (f_opMany : Int32) (a_tape : Nat → Int32) (a_codeSort : Nat → Int32) (a_codeValue : Nat → Int32) (a_frame : Nat → Int32) (a_phase : Nat → Int32) (a_begins : Nat → Int32) (a_pair : Nat → Int32) (a_base : Nat → Int32) (a_ops : Nat → Int32)  (x2_137 : Int32) (f_faultKind_137 : Int32) (f_faultPlace_137 : Int32) : Option (Bool × Int32 × Int32 × Int32 × Int32 × Int64 × Int32 × Int32 × Int32 × Int32 × Int32 × Int32 × Int32 × (Nat → Int32) × (Nat → Int32) × (Nat → Int32) × (Nat → Int32) × (Nat → Int32) × (Nat → Int32) × (Nat → Int32) × (Nat → Int32)) :=
  if x2_137 = 0 then
    mX12_operand_171 f_size f_sign f_signAt f_signEnd f_value f_word f_lexAt f_codes f_in f_law f_deep f_open f_opMany a_tape a_codeSort a_codeValue a_frame a_phase a_begins a_pair a_base a_ops f_faultKind_137 f_faultPlace_137
  else
    if (mX12_isWord (6384748 : Int64) f_sign f_word) = true then
      (mX12_add (30 : Int32) (0 : Int32) f_codes f_in a_codeSort a_codeValue).bind (xu fun q18_1 => xu fun q18_2 => fun q18_3 =>
        (mX12_ahead f_size f_signEnd f_value f_word a_tape).bind (xu fun q19_1 => xu fun q19_2 => xu fun q19_3 => xu fun q19_4 => xu fun q19_5 => fun q19_6 =>
          some (true, q19_1, q19_2, q19_3, q19_4, q19_5, f_faultKind_137, f_faultPlace_137, q19_6, q18_1, f_deep, f_open, f_opMany, q18_2, q18_3, a_frame, upd a_phase (f_deep - 1).toNatClampNeg 2, upd a_begins (f_deep - 1).toNatClampNeg 0, a_pair, a_base, a_ops)))
    else
      mX12_operand_171 f_size f_sign f_signAt f_signEnd f_value f_word f_lexAt f_codes f_in f_law f_deep f_open f_opMany a_tape a_codeSort a_codeValue a_frame a_phase a_begins a_pair a_base a_ops f_faultKind_137 f_faultPlace_137
def mX12_operand_110 (f_size : Int32) (f_sign : Int32) (f_signAt : Int32) (f_signEnd : Int32) (f_value : Int32) (f_word : Int64) (f_lexAt : Int32) (f_codes : Int32) (f_in : Int32) (f_law : Int32) (f_deep : Int32) (f_open : Int32) (f_opMany : Int32) (a_tape : Nat → Int32) (a_codeSort : Nat → Int32) (a_codeValue : Nat → Int32) (a_frame : Nat → Int32) (a_phase : Nat → Int32) (a_begins : Nat → Int32) (a_pair : Nat → Int32) (a_base : Nat → Int32) (a_ops : Nat → Int32)  (x2_110 : Int32) (f_faultKind_110 : Int32) (f_faultPlace_110 : Int32) : Option (Bool × Int32 × Int32 × Int32 × Int32 × Int64 × Int32 × Int32 × Int32 × Int32 × Int32 × Int32 × Int32 × (Nat → Int32) × (Nat → Int32) × (Nat → Int32) × (Nat → Int32) × (Nat → Int32) × (Nat → Int32) × (Nat → Int32) × (Nat → Int32)) :=
  if x2_110 = 0 then
    mX12_operand_137 f_size f_sign f_signAt f_signEnd f_value f_word f_lexAt f_codes f_in f_law f_deep f_open f_opMany a_tape a_codeSort a_codeValue a_frame a_phase a_begins a_pair a_base a_ops x2_110 f_faultKind_110 f_faultPlace_110
  else
    if (mX12_isSign (91 : Int32) f_sign f_value) = true then
      (mX12_opens (5 : Int32) f_size f_sign f_signAt f_signEnd f_value f_word f_faultKind_110 f_faultPlace_110 f_lexAt f_deep f_open f_opMany a_tape a_frame a_phase (upd a_begins (f_deep - 1).toNatClampNeg 0) a_base).bind (xu fun q15_1 => xu fun q15_2 => xu fun q15_3 => xu fun q15_4 => xu fun q15_5 => xu fun q15_6 => xu fun q15_7 => xu fun q15_8 => xu fun q15_9 => xu fun q15_10 => xu fun q15_11 => xu fun q15_12 => xu fun q15_13 => fun q15_14 =>
        some (false, q15_1, q15_2, q15_3, q15_4, q15_5, q15_6, q15_7, q15_8, f_codes, q15_9, q15_10, f_opMany, a_codeSort, a_codeValue, q15_11, q15_12, q15_13, a_pair, q15_14, a_ops))
    else
      mX12_operand_137 f_size f_sign f_signAt f_signEnd f_value f_word f_lexAt f_codes f_in f_law f_deep f_open f_opMany a_tape a_codeSort a_codeValue a_frame a_phase a_begins a_pair a_base a_ops x2_110 f_faultKind_110 f_faultPlace_110
def mX12_operand_79 (f_size : Int32) (f_sign : Int32) (f_signAt : Int32) (f_signEnd : Int32) (f_value : Int32) (f_word : Int64) (f_lexAt : Int32) (f_codes : Int32) (f_deep : Int32) (f_open : Int32) (f_opMany : Int32) (a_tape : Nat → Int32) (a_codeSort : Nat → Int32) (a_codeValue : Nat → Int32) (a_frame : Nat → Int32) (a_phase : Nat → Int32) (a_begins : Nat → Int32) (a_pair : Nat → Int32) (a_base : Nat → Int32) (a_ops : Nat → Int32)  (f_faultKind_79 : Int32) (f_faultPlace_79 : Int32) : Option (Bool × Int32 × Int32 × Int32 × Int32 × Int64 × Int32 × Int32 × Int32 × Int32 × Int32 × Int32 × Int32 × (Nat → Int32) × (Nat → Int32) × (Nat → Int32) × (Nat → Int32) × (Nat → Int32) × (Nat → Int32) × (Nat → Int32) × (Nat → Int32)) :=
  if 0 < f_faultKind_79 then
    some (true, f_sign, f_signAt, f_signEnd, f_value, f_word, f_faultKind_79, f_faultPlace_79, f_lexAt, f_codes, f_deep, f_open, f_opMany, a_codeSort, a_codeValue, a_frame, a_phase, a_begins, a_pair, a_base, a_ops)
  else
    (mX12_holdsBack (43 : Int32) f_opMany a_ops).bind (xu fun q11_1 => fun q11_2 =>
      (mX12_ahead f_size f_signEnd f_value f_word a_tape).bind (xu fun q12_1 => xu fun q12_2 => xu fun q12_3 => xu fun q12_4 => xu fun q12_5 => fun q12_6 =>
        some (false, q12_1, q12_2, q12_3, q12_4, q12_5, f_faultKind_79, f_faultPlace_79, q12_6, f_codes, f_deep, f_open + 1, q11_1, a_codeSort, a_codeValue, a_frame, a_phase, a_begins, a_pair, a_base, q11_2)))
def mX12_operand_46 (f_size : Int32) (f_sign : Int32) (f_signAt : Int32) (f_signEnd : Int32) (f_value : Int32) (f_word : Int64) (f_lexAt : Int32) (f_codes : Int32) (f_in : Int32) (f_law : Int32) (f_deep : Int32) (f_open : Int32) (f_opMany : Int32) (a_tape : Nat → Int32) (a_codeSort : Nat → Int32) (a_codeValue : Nat → Int32) (a_frame : Nat → Int32) (a_phase : Nat → Int32) (a_begins : Nat → Int32) (a_pair : Nat → Int32) (a_base : Nat → Int32) (a_ops : Nat → Int32)  (s0_46 : Int32) (f_faultKind_46 : Int32) (f_faultPlace_46 : Int32) : Option (Bool × Int32 × Int32 × Int32 × Int32 × Int64 × Int32 × Int32 × Int32 × Int32 × Int32 × Int32 × Int32 × (Nat → Int32) × (Nat → Int32) × (Nat → Int32) × (Nat → Int32) × (Nat → Int32) × (Nat → Int32) × (Nat → Int32) × (Nat → Int32)) :=
  if s0_46 = 0 then
    mX12_operand_110 f_size f_sign f_signAt f_signEnd f_value f_word f_lexAt f_codes f_in f_law f_deep f_open f_opMany a_tape a_codeSort a_codeValue a_frame a_phase a_begins a_pair a_base a_ops s0_46 f_faultKind_46 f_faultPlace_46
  else
    if (mX12_isWord (7237492 : Int64) f_sign f_word) = true then
      if f_open = 7 then
        xlet (mX12_blame (5 : Int32) f_signAt f_faultKind_46 f_faultPlace_46) (xu fun q9_1 => fun q9_2 =>
          mX12_operand_79 f_size f_sign f_signAt f_signEnd f_value f_word f_lexAt f_codes f_deep f_open f_opMany a_tape a_codeSort a_codeValue a_frame a_phase a_begins a_pair a_base a_ops q9_1 q9_2)
      else
        mX12_operand_79 f_size f_sign f_signAt f_signEnd f_value f_word f_lexAt f_codes f_deep f_open f_opMany a_tape a_codeSort a_codeValue a_frame a_phase a_begins a_pair a_base a_ops f_faultKind_46 f_faultPlace_46
    else
      mX12_operand_110 f_size f_sign f_signAt f_signEnd f_value f_word f_lexAt f_codes f_in f_law f_deep f_open f_opMany a_tape a_codeSort a_codeValue a_frame a_phase a_begins a_pair a_base a_ops s0_46 f_faultKind_46 f_faultPlace_46
def mX12_operand_45 (f_size : Int32) (f_sign : Int32) (f_signAt : Int32) (f_signEnd : Int32) (f_value : Int32) (f_word : Int64) (f_lexAt : Int32) (f_codes : Int32) (f_in : Int32) (f_law : Int32) (f_deep : Int32) (f_open : Int32) (f_opMany : Int32) (a_tape : Nat → Int32) (a_codeSort : Nat → Int32) (a_codeValue : Nat → Int32) (a_frame : Nat → Int32) (a_phase : Nat → Int32) (a_begins : Nat → Int32) (a_pair : Nat → Int32) (a_base : Nat → Int32) (a_ops : Nat → Int32)  (f_faultKind_45 : Int32) (f_faultPlace_45 : Int32) : Option (Bool × Int32 × Int32 × Int32 × Int32 × Int64 × Int32 × Int32 × Int32 × Int32 × Int32 × Int32 × Int32 × (Nat → Int32) × (Nat → Int32) × (Nat → Int32) × (Nat → Int32) × (Nat → Int32) × (Nat → Int32) × (Nat → Int32) × (Nat → Int32)) :=
  mX12_operand_46 f_size f_sign f_signAt f_signEnd f_value f_word f_lexAt f_codes f_in f_law f_deep f_open f_opMany a_tape a_codeSort a_codeValue a_frame a_phase a_begins a_pair a_base a_ops (0 : Int32) f_faultKind_45 f_faultPlace_45
def mX12_operand (f_size : Int32) (f_sign : Int32) (f_signAt : Int32) (f_signEnd : Int32) (f_value : Int32) (f_word : Int64) (f_faultKind : Int32) (f_faultPlace : Int32) (f_lexAt : Int32) (f_codes : Int32) (f_in : Int32) (f_law : Int32) (f_deep : Int32) (f_open : Int32) (f_opMany : Int32) (a_tape : Nat → Int32) (a_codeSort : Nat → Int32) (a_codeValue : Nat → Int32) (a_frame : Nat → Int32) (a_phase : Nat → Int32) (a_begins : Nat → Int32) (a_pair : Nat → Int32) (a_base : Nat → Int32) (a_ops : Nat → Int32) : Option (Bool × Int32 × Int32 × Int32 × Int32 × Int64 × Int32 × Int32 × Int32 × Int32 × Int32 × Int32 × Int32 × (Nat → Int32) × (Nat → Int32) × (Nat → Int32) × (Nat → Int32) × (Nat → Int32) × (Nat → Int32) × (Nat → Int32) × (Nat → Int32)) :=
  xlet (mX12_lex f_faultKind f_faultPlace f_lexAt) (xu fun q1_1 => fun q1_2 =>
    if 0 < q1_1 then
      some (true, f_sign, f_signAt, f_signEnd, f_value, f_word, q1_1, q1_2, f_lexAt, f_codes, f_deep, f_open, f_opMany, a_codeSort, a_codeValue, a_frame, a_phase, a_begins, a_pair, a_base, a_ops)
    else
      if xinb (f_deep - 1) 20 = true then
        if (mX12_isTest (a_frame (f_deep - 1).toNatClampNeg)) = true then
          if (a_begins (f_deep - 1).toNatClampNeg) = 0 then
            mX12_operand_45 f_size f_sign f_signAt f_signEnd f_value f_word f_lexAt f_codes f_in f_law f_deep f_open f_opMany a_tape a_codeSort a_codeValue a_frame a_phase a_begins a_pair a_base a_ops q1_1 q1_2
          else
            mX12_operand_46 f_size f_sign f_signAt f_signEnd f_value f_word f_lexAt f_codes f_in f_law f_deep f_open f_opMany a_tape a_codeSort a_codeValue a_frame a_phase a_begins a_pair a_base a_ops (1 : Int32) q1_1 q1_2
        else
          mX12_operand_45 f_size f_sign f_signAt f_signEnd f_value f_word f_lexAt f_codes f_in f_law f_deep f_open f_opMany a_tape a_codeSort a_codeValue a_frame a_phase a_begins a_pair a_base a_ops q1_1 q1_2
      else none)
def mX12_goesOn_499 (f_size : Int32) (f_signEnd : Int32) (f_value : Int32) (f_word : Int64) (f_deep : Int32) (a_tape : Nat → Int32) (a_frame : Nat → Int32) (a_phase : Nat → Int32) (a_begins : Nat → Int32) (a_ops : Nat → Int32)  (s0_499 : Int32) (f_faultKind_499 : Int32) (f_faultPlace_499 : Int32) (f_codes_499 : Int32) (f_open_499 : Int32) (f_opMany_499 : Int32) (a_codeSort_499 : Nat → Int32) (a_codeValue_499 : Nat → Int32) : Option (Bool × Int32 × Int32 × Int32 × Int32 × Int64 × Int32 × Int32 × Int32 × Int32 × Int32 × Int32 × Int32 × Bool × (Nat → Int32) × (Nat → Int32) × (Nat → Int32) × (Nat → Int32) × (Nat → Int32) × (Nat → Int32)) :=
  (mX12_ahead f_size f_signEnd f_value f_word a_tape).bind (xu fun q64_1 => xu fun q64_2 => xu fun q64_3 => xu fun q64_4 => xu fun q64_5 => fun q64_6 =>
    some (true, q64_1, q64_2, q64_3, q64_4, q64_5, f_faultKind_499, f_faultPlace_499, q64_6, f_codes_499, f_deep, f_open_499, f_opMany_499, false, a_codeSort_499, a_codeValue_499, upd a_frame (f_deep - 1).toNatClampNeg s0_499, upd a_phase (f_deep - 1).toNatClampNeg 0, a_begins, a_ops))
def mX12_goesOn_470 (f_size : Int32) (f_sign : Int32) (f_signAt : Int32) (f_signEnd : Int32) (f_value : Int32) (f_word : Int64) (f_lexAt : Int32) (f_codes : Int32) (f_in : Int32) (f_deep : Int32) (f_open : Int32) (f_opMany : Int32) (f_operand : Bool) (a_tape : Nat → Int32) (a_codeSort : Nat → Int32) (a_codeValue : Nat → Int32) (a_frame : Nat → Int32) (a_phase : Nat → Int32) (a_begins : Nat → Int32) (a_base : Nat → Int32) (a_ops : Nat → Int32)  (f_faultKind_470 : Int32) (f_faultPlace_470 : Int32) : Option (Bool × Int32 × Int32 × Int32 × Int32 × Int64 × Int32 × Int32 × Int32 × Int32 × Int32 × Int32 × Int32 × Bool × (Nat → Int32) × (Nat → Int32) × (Nat → Int32) × (Nat → Int32) × (Nat → Int32) × (Nat → Int32)) :=
  if 0 < f_faultKind_470 then
    some (false, f_sign, f_signAt, f_signEnd, f_value, f_word, f_faultKind_470, f_faultPlace_470, f_lexAt, f_codes, f_deep, f_open, f_opMany, f_operand, a_codeSort, a_codeValue, a_frame, a_phase, a_begins, a_ops)
  else
    (mX12_joins (1 : Int32) f_codes f_in f_deep f_open f_opMany a_codeSort a_codeValue a_base a_ops).bind (xu fun q62_1 => xu fun q62_2 => xu fun q62_3 => xu fun q62_4 => fun q62_5 =>
      if (a_frame (f_deep - 1).toNatClampNeg) = 3 then
        mX12_goesOn_499 f_size f_signEnd f_value f_word f_deep a_tape a_frame a_phase a_begins a_ops (4 : Int32) f_faultKind_470 f_faultPlace_470 q62_1 q62_2 q62_3 q62_4 q62_5
      else
        mX12_goesOn_499 f_size f_signEnd f_value f_word f_deep a_tape a_frame a_phase a_begins a_ops (3 : Int32) f_faultKind_470 f_faultPlace_470 q62_1 q62_2 q62_3 q62_4 q62_5)
def mX12_goesOn_452 (f_size : Int32) (f_sign : Int32) (f_signAt : Int32) (f_signEnd : Int32) (f_value : Int32) (f_word : Int64) (f_lexAt : Int32) (f_codes : Int32) (f_in : Int32) (f_deep : Int32) (f_open : Int32) (f_opMany : Int32) (f_operand : Bool) (a_tape : Nat → Int32) (a_codeSort : Nat → Int32) (a_codeValue : Nat → Int32) (a_frame : Nat → Int32) (a_phase : Nat → Int32) (a_begins : Nat → Int32) (a_base : Nat → Int32) (a_ops : Nat → Int32)  (f_faultKind_452 : Int32) (f_faultPlace_452 : Int32) : Option (Bool × Int32 × Int32 × Int32 × Int32 × Int64 × Int32 × Int32 × Int32 × Int32 × Int32 × Int32 × Int32 × Bool × (Nat → Int32) × (Nat → Int32) × (Nat → Int32) × (Nat → Int32) × (Nat → Int32) × (Nat → Int32)) :=
  if (mX12_isSign (44 : Int32) f_sign f_value) = true then
    mX12_goesOn_470 f_size f_sign f_signAt f_signEnd f_value f_word f_lexAt f_codes f_in f_deep f_open f_opMany f_operand a_tape a_codeSort a_codeValue a_frame a_phase a_begins a_base a_ops f_faultKind_452 f_faultPlace_452
  else
    xlet (mX12_blame (1 : Int32) f_signAt f_faultKind_452 f_faultPlace_452) (xu fun q60_1 => fun q60_2 =>
      mX12_goesOn_470 f_size f_sign f_signAt f_signEnd f_value f_word f_lexAt f_codes f_in f_deep f_open f_opMany f_operand a_tape a_codeSort a_codeValue a_frame a_phase a_begins a_base a_ops q60_1 q60_2)
def mX12_goesOn_596 (f_size : Int32) (f_signEnd : Int32) (f_value : Int32) (f_word : Int64) (f_deep : Int32) (f_operand : Bool) (a_tape : Nat → Int32) (a_frame : Nat → Int32) (a_phase : Nat → Int32) (a_begins : Nat → Int32) (a_ops : Nat → Int32)  (f_faultKind_596 : Int32) (f_faultPlace_596 : Int32) (f_codes_596 : Int32) (f_open_596 : Int32) (f_opMany_596 : Int32) (a_codeSort_596 : Nat → Int32) (a_codeValue_596 : Nat → Int32) : Option (Bool × Int32 × Int32 × Int32 × Int32 × Int64 × Int32 × Int32 × Int32 × Int32 × Int32 × Int32 × Int32 × Bool × (Nat → Int32) × (Nat → Int32) × (Nat → Int32) × (Nat → Int32) × (Nat → Int32) × (Nat → Int32)) :=
  if (a_frame (f_deep - 1).toNatClampNeg) = 5 then
    if xinb ((f_deep - 1) - 1) 20 = true then
      (mX12_ahead f_size f_signEnd f_value f_word a_tape).bind (xu fun q57_1 => xu fun q57_2 => xu fun q57_3 => xu fun q57_4 => xu fun q57_5 => fun q57_6 =>
        some (true, q57_1, q57_2, q57_3, q57_4, q57_5, f_faultKind_596, f_faultPlace_596, q57_6, f_codes_596, f_deep - 1, f_open_596, f_opMany_596, f_operand, a_codeSort_596, a_codeValue_596, a_frame, upd a_phase ((f_deep - 1) - 1).toNatClampNeg 2, a_begins, a_ops))
    else none
  else
    (mX12_ahead f_size f_signEnd f_value f_word a_tape).bind (xu fun q58_1 => xu fun q58_2 => xu fun q58_3 => xu fun q58_4 => xu fun q58_5 => fun q58_6 =>
      some (true, q58_1, q58_2, q58_3, q58_4, q58_5, f_faultKind_596, f_faultPlace_596, q58_6, f_codes_596, f_deep - 1, f_open_596, f_opMany_596, f_operand, a_codeSort_596, a_codeValue_596, a_frame, a_phase, a_begins, a_ops))
def mX12_goesOn_546 (f_size : Int32) (f_sign : Int32) (f_signAt : Int32) (f_signEnd : Int32) (f_value : Int32) (f_word : Int64) (f_lexAt : Int32) (f_codes : Int32) (f_in : Int32) (f_deep : Int32) (f_open : Int32) (f_opMany : Int32) (f_operand : Bool) (a_tape : Nat → Int32) (a_codeSort : Nat → Int32) (a_codeValue : Nat → Int32) (a_frame : Nat → Int32) (a_phase : Nat → Int32) (a_begins : Nat → Int32) (a_pair : Nat → Int32) (a_base : Nat → Int32) (a_ops : Nat → Int32)  (f_faultKind_546 : Int32) (f_faultPlace_546 : Int32) : Option (Bool × Int32 × Int32 × Int32 × Int32 × Int64 × Int32 × Int32 × Int32 × Int32 × Int32 × Int32 × Int32 × Bool × (Nat → Int32) × (Nat → Int32) × (Nat → Int32) × (Nat → Int32) × (Nat → Int32) × (Nat → Int32)) :=
  if 0 < f_faultKind_546 then
    some (false, f_sign, f_signAt, f_signEnd, f_value, f_word, f_faultKind_546, f_faultPlace_546, f_lexAt, f_codes, f_deep, f_open, f_opMany, f_operand, a_codeSort, a_codeValue, a_frame, a_phase, a_begins, a_ops)
  else
    (mX12_joins (1 : Int32) f_codes f_in f_deep f_open f_opMany a_codeSort a_codeValue a_base a_ops).bind (xu fun q52_1 => xu fun q52_2 => xu fun q52_3 => xu fun q52_4 => fun q52_5 =>
      if (a_frame (f_deep - 1).toNatClampNeg) = 4 then
        (mX12_add (a_pair (f_deep - 1).toNatClampNeg) (0 : Int32) q52_1 f_in q52_4 q52_5).bind (xu fun q54_1 => xu fun q54_2 => fun q54_3 =>
          mX12_goesOn_596 f_size f_signEnd f_value f_word f_deep f_operand a_tape a_frame a_phase a_begins a_ops f_faultKind_546 f_faultPlace_546 q54_1 (q52_2 - 1) q52_3 q54_2 q54_3)
      else
        mX12_goesOn_596 f_size f_signEnd f_value f_word f_deep f_operand a_tape a_frame a_phase a_begins a_ops f_faultKind_546 f_faultPlace_546 q52_1 (q52_2 - 1) q52_3 q52_4 q52_5)
def mX12_goesOn_531 (f_size : Int32) (f_sign : Int32) (f_signAt : Int32) (f_signEnd : Int32) (f_value : Int32) (f_word : Int64) (f_lexAt : Int32) (f_codes : Int32) (f_in : Int32) (f_deep : Int32) (f_open : Int32) (f_opMany : Int32) (f_operand : Bool) (a_tape : Nat → Int32) (a_codeSort : Nat → Int32) (a_codeValue : Nat → Int32) (a_frame : Nat → Int32) (a_phase : Nat → Int32) (a_begins : Nat → Int32) (a_pair : Nat → Int32) (a_base : Nat → Int32) (a_ops : Nat → Int32)  (s0_531 : Int32) (f_faultKind_531 : Int32) (f_faultPlace_531 : Int32) : Option (Bool × Int32 × Int32 × Int32 × Int32 × Int64 × Int32 × Int32 × Int32 × Int32 × Int32 × Int32 × Int32 × Bool × (Nat → Int32) × (Nat → Int32) × (Nat → Int32) × (Nat → Int32) × (Nat → Int32) × (Nat → Int32)) :=
  if (mX12_isSign s0_531 f_sign f_value) = true then
    mX12_goesOn_546 f_size f_sign f_signAt f_signEnd f_value f_word f_lexAt f_codes f_in f_deep f_open f_opMany f_operand a_tape a_codeSort a_codeValue a_frame a_phase a_begins a_pair a_base a_ops f_faultKind_531 f_faultPlace_531
  else
    xlet (mX12_blame (1 : Int32) f_signAt f_faultKind_531 f_faultPlace_531) (xu fun q50_1 => fun q50_2 =>
      mX12_goesOn_546 f_size f_sign f_signAt f_signEnd f_value f_word f_lexAt f_codes f_in f_deep f_open f_opMany f_operand a_tape a_codeSort a_codeValue a_frame a_phase a_begins a_pair a_base a_ops q50_1 q50_2)
def mX12_goesOn_422 (f_size : Int32) (f_sign : Int32) (f_signAt : Int32) (f_signEnd : Int32) (f_value : Int32) (f_word : Int64) (f_lexAt : Int32) (f_codes : Int32) (f_in : Int32) (f_deep : Int32) (f_open : Int32) (f_opMany : Int32) (f_operand : Bool) (a_tape : Nat → Int32) (a_codeSort : Nat → Int32) (a_codeValue : Nat → Int32) (a_frame : Nat → Int32) (a_phase : Nat → Int32) (a_begins : Nat → Int32) (a_pair : Nat → Int32) (a_base : Nat → Int32) (a_ops : Nat → Int32)  (f_faultKind_422 : Int32) (f_faultPlace_422 : Int32) : Option (Bool × Int32 × Int32 × Int32 × Int32 × Int64 × Int32 × Int32 × Int32 × Int32 × Int32 × Int32 × Int32 × Bool × (Nat → Int32) × (Nat → Int32) × (Nat → Int32) × (Nat → Int32) × (Nat → Int32) × (Nat → Int32)) :=
  if (a_frame (f_deep - 1).toNatClampNeg) < 2 then
    if f_faultKind_422 = 0 then
      (mX12_joins (1 : Int32) f_codes f_in f_deep f_open f_opMany a_codeSort a_codeValue a_base a_ops).bind (xu fun q45_1 => xu fun q45_2 => xu fun q45_3 => xu fun q45_4 => fun q45_5 =>
        some (false, f_sign, f_signAt, f_signEnd, f_value, f_word, f_faultKind_422, f_faultPlace_422, f_lexAt, q45_1, f_deep, q45_2, q45_3, f_operand, q45_4, q45_5, a_frame, a_phase, a_begins, a_ops))
    else
      some (false, f_sign, f_signAt, f_signEnd, f_value, f_word, f_faultKind_422, f_faultPlace_422, f_lexAt, f_codes, f_deep, f_open, f_opMany, f_operand, a_codeSort, a_codeValue, a_frame, a_phase, a_begins, a_ops)
  else
    if (a_frame (f_deep - 1).toNatClampNeg) = 3 then
      mX12_goesOn_452 f_size f_sign f_signAt f_signEnd f_value f_word f_lexAt f_codes f_in f_deep f_open f_opMany f_operand a_tape a_codeSort a_codeValue a_frame a_phase a_begins a_base a_ops f_faultKind_422 f_faultPlace_422
    else
      if (a_frame (f_deep - 1).toNatClampNeg) = 6 then
        mX12_goesOn_452 f_size f_sign f_signAt f_signEnd f_value f_word f_lexAt f_codes f_in f_deep f_open f_opMany f_operand a_tape a_codeSort a_codeValue a_frame a_phase a_begins a_base a_ops f_faultKind_422 f_faultPlace_422
      else
        if (a_frame (f_deep - 1).toNatClampNeg) = 5 then
          mX12_goesOn_531 f_size f_sign f_signAt f_signEnd f_value f_word f_lexAt f_codes f_in f_deep f_open f_opMany f_operand a_tape a_codeSort a_codeValue a_frame a_phase a_begins a_pair a_base a_ops (93 : Int32) f_faultKind_422 f_faultPlace_422
        else
          mX12_goesOn_531 f_size f_sign f_signAt f_signEnd f_value f_word f_lexAt f_codes f_in f_deep f_open f_opMany f_operand a_tape a_codeSort a_codeValue a_frame a_phase a_begins a_pair a_base a_ops (41 : Int32) f_faultKind_422 f_faultPlace_422
def mX12_goesOn_400 (f_size : Int32) (f_sign : Int32) (f_signAt : Int32) (f_signEnd : Int32) (f_value : Int32) (f_word : Int64) (f_lexAt : Int32) (f_codes : Int32) (f_in : Int32) (f_deep : Int32) (f_open : Int32) (f_opMany : Int32) (f_operand : Bool) (a_tape : Nat → Int32) (a_codeSort : Nat → Int32) (a_codeValue : Nat → Int32) (a_frame : Nat → Int32) (a_phase : Nat → Int32) (a_begins : Nat → Int32) (a_pair : Nat → Int32) (a_base : Nat → Int32) (a_ops : Nat → Int32)  (f_faultKind_400 : Int32) (f_faultPlace_400 : Int32) : Option (Bool × Int32 × Int32 × Int32 × Int32 × Int64 × Int32 × Int32 × Int32 × Int32 × Int32 × Int32 × Int32 × Bool × (Nat → Int32) × (Nat → Int32) × (Nat → Int32) × (Nat → Int32) × (Nat → Int32) × (Nat → Int32)) :=
  if (mX12_isTest (a_frame (f_deep - 1).toNatClampNeg)) = true then
    if (a_phase (f_deep - 1).toNatClampNeg) = 0 then
      xlet (mX12_blame (1 : Int32) f_signAt f_faultKind_400 f_faultPlace_400) (xu fun q42_1 => fun q42_2 =>
        mX12_goesOn_422 f_size f_sign f_signAt f_signEnd f_value f_word f_lexAt f_codes f_in f_deep f_open f_opMany f_operand a_tape a_codeSort a_codeValue a_frame a_phase a_begins a_pair a_base a_ops q42_1 q42_2)
    else
      mX12_goesOn_422 f_size f_sign f_signAt f_signEnd f_value f_word f_lexAt f_codes f_in f_deep f_open f_opMany f_operand a_tape a_codeSort a_codeValue a_frame a_phase a_begins a_pair a_base a_ops f_faultKind_400 f_faultPlace_400
  else
    mX12_goesOn_422 f_size f_sign f_signAt f_signEnd f_value f_word f_lexAt f_codes f_in f_deep f_open f_opMany f_operand a_tape a_codeSort a_codeValue a_frame a_phase a_begins a_pair a_base a_ops f_faultKind_400 f_faultPlace_400
def mX12_goesOn_372 (f_size : Int32) (f_signEnd : Int32) (f_value : Int32) (f_word : Int64) (f_deep : Int32) (a_tape : Nat → Int32) (a_frame : Nat → Int32) (a_phase : Nat → Int32) (a_begins : Nat → Int32) (a_ops : Nat → Int32)  (s0_372 : Int32) (f_faultKind_372 : Int32) (f_faultPlace_372 : Int32) (f_codes_372 : Int32) (f_open_372 : Int32) (f_opMany_372 : Int32) (a_codeSort_372 : Nat → Int32) (a_codeValue_372 : Nat → Int32) : Option (Bool × Int32 × Int32 × Int32 × Int32 × Int64 × Int32 × Int32 × Int32 × Int32 × Int32 × Int32 × Int32 × Bool × (Nat → Int32) × (Nat → Int32) × (Nat → Int32) × (Nat → Int32) × (Nat → Int32) × (Nat → Int32)) :=
  (mX12_holdsBack s0_372 f_opMany_372 a_ops).bind (xu fun q38_1 => fun q38_2 =>
    (mX12_ahead f_size f_signEnd f_value f_word a_tape).bind (xu fun q39_1 => xu fun q39_2 => xu fun q39_3 => xu fun q39_4 => xu fun q39_5 => fun q39_6 =>
      some (true, q39_1, q39_2, q39_3, q39_4, q39_5, f_faultKind_372, f_faultPlace_372, q39_6, f_codes_372, f_deep, f_open_372, q38_1, false, a_codeSort_372, a_codeValue_372, a_frame, upd a_phase (f_deep - 1).toNatClampNeg 0, upd a_begins (f_deep - 1).toNatClampNeg 1, q38_2)))
def mX12_goesOn_356 (f_size : Int32) (f_sign : Int32) (f_signEnd : Int32) (f_value : Int32) (f_word : Int64) (f_codes : Int32) (f_in : Int32) (f_deep : Int32) (f_open : Int32) (f_opMany : Int32) (a_tape : Nat → Int32) (a_codeSort : Nat → Int32) (a_codeValue : Nat → Int32) (a_frame : Nat → Int32) (a_phase : Nat → Int32) (a_begins : Nat → Int32) (a_base : Nat → Int32) (a_ops : Nat → Int32)  (s0_356 : Int32) (f_faultKind_356 : Int32) (f_faultPlace_356 : Int32) : Option (Bool × Int32 × Int32 × Int32 × Int32 × Int64 × Int32 × Int32 × Int32 × Int32 × Int32 × Int32 × Int32 × Bool × (Nat → Int32) × (Nat → Int32) × (Nat → Int32) × (Nat → Int32) × (Nat → Int32) × (Nat → Int32)) :=
  (mX12_joins s0_356 f_codes f_in f_deep f_open f_opMany a_codeSort a_codeValue a_base a_ops).bind (xu fun q36_1 => xu fun q36_2 => xu fun q36_3 => xu fun q36_4 => fun q36_5 =>
    if (mX12_isWord (6385252 : Int64) f_sign f_word) = true then
      mX12_goesOn_372 f_size f_signEnd f_value f_word f_deep a_tape a_frame a_phase a_begins a_ops (41 : Int32) f_faultKind_356 f_faultPlace_356 q36_1 q36_2 q36_3 q36_4 q36_5
    else
      mX12_goesOn_372 f_size f_signEnd f_value f_word f_deep a_tape a_frame a_phase a_begins a_ops (42 : Int32) f_faultKind_356 f_faultPlace_356 q36_1 q36_2 q36_3 q36_4 q36_5)
def mX12_goesOn_327 (f_size : Int32) (f_sign : Int32) (f_signAt : Int32) (f_signEnd : Int32) (f_value : Int32) (f_word : Int64) (f_lexAt : Int32) (f_codes : Int32) (f_in : Int32) (f_deep : Int32) (f_open : Int32) (f_opMany : Int32) (f_operand : Bool) (a_tape : Nat → Int32) (a_codeSort : Nat → Int32) (a_codeValue : Nat → Int32) (a_frame : Nat → Int32) (a_phase : Nat → Int32) (a_begins : Nat → Int32) (a_base : Nat → Int32) (a_ops : Nat → Int32)  (f_faultKind_327 : Int32) (f_faultPlace_327 : Int32) : Option (Bool × Int32 × Int32 × Int32 × Int32 × Int64 × Int32 × Int32 × Int32 × Int32 × Int32 × Int32 × Int32 × Bool × (Nat → Int32) × (Nat → Int32) × (Nat → Int32) × (Nat → Int32) × (Nat → Int32) × (Nat → Int32)) :=
  if 0 < f_faultKind_327 then
    some (false, f_sign, f_signAt, f_signEnd, f_value, f_word, f_faultKind_327, f_faultPlace_327, f_lexAt, f_codes, f_deep, f_open, f_opMany, f_operand, a_codeSort, a_codeValue, a_frame, a_phase, a_begins, a_ops)
  else
    if (mX12_isWord (6385252 : Int64) f_sign f_word) = true then
      mX12_goesOn_356 f_size f_sign f_signEnd f_value f_word f_codes f_in f_deep f_open f_opMany a_tape a_codeSort a_codeValue a_frame a_phase a_begins a_base a_ops (2 : Int32) f_faultKind_327 f_faultPlace_327
    else
      mX12_goesOn_356 f_size f_sign f_signEnd f_value f_word f_codes f_in f_deep f_open f_opMany a_tape a_codeSort a_codeValue a_frame a_phase a_begins a_base a_ops (1 : Int32) f_faultKind_327 f_faultPlace_327
def mX12_goesOn_309 (f_size : Int32) (f_sign : Int32) (f_signAt : Int32) (f_signEnd : Int32) (f_value : Int32) (f_word : Int64) (f_lexAt : Int32) (f_codes : Int32) (f_in : Int32) (f_deep : Int32) (f_open : Int32) (f_opMany : Int32) (f_operand : Bool) (a_tape : Nat → Int32) (a_codeSort : Nat → Int32) (a_codeValue : Nat → Int32) (a_frame : Nat → Int32) (a_phase : Nat → Int32) (a_begins : Nat → Int32) (a_base : Nat → Int32) (a_ops : Nat → Int32)  (f_faultKind_309 : Int32) (f_faultPlace_309 : Int32) : Option (Bool × Int32 × Int32 × Int32 × Int32 × Int64 × Int32 × Int32 × Int32 × Int32 × Int32 × Int32 × Int32 × Bool × (Nat → Int32) × (Nat → Int32) × (Nat → Int32) × (Nat → Int32) × (Nat → Int32) × (Nat → Int32)) :=
  if (a_phase (f_deep - 1).toNatClampNeg) = 0 then
    xlet (mX12_blame (1 : Int32) f_signAt f_faultKind_309 f_faultPlace_309) (xu fun q33_1 => fun q33_2 =>
      mX12_goesOn_327 f_size f_sign f_signAt f_signEnd f_value f_word f_lexAt f_codes f_in f_deep f_open f_opMany f_operand a_tape a_codeSort a_codeValue a_frame a_phase a_begins a_base a_ops q33_1 q33_2)
  else
    mX12_goesOn_327 f_size f_sign f_signAt f_signEnd f_value f_word f_lexAt f_codes f_in f_deep f_open f_opMany f_operand a_tape a_codeSort a_codeValue a_frame a_phase a_begins a_base a_ops f_faultKind_309 f_faultPlace_309
def mX12_goesOn_285 (f_size : Int32) (f_sign : Int32) (f_signAt : Int32) (f_signEnd : Int32) (f_value : Int32) (f_word : Int64) (f_lexAt : Int32) (f_codes : Int32) (f_in : Int32) (f_deep : Int32) (f_open : Int32) (f_opMany : Int32) (f_operand : Bool) (a_tape : Nat → Int32) (a_codeSort : Nat → Int32) (a_codeValue : Nat → Int32) (a_frame : Nat → Int32) (a_phase : Nat → Int32) (a_begins : Nat → Int32) (a_pair : Nat → Int32) (a_base : Nat → Int32) (a_ops : Nat → Int32)  (f_faultKind_285 : Int32) (f_faultPlace_285 : Int32) : Option (Bool × Int32 × Int32 × Int32 × Int32 × Int64 × Int32 × Int32 × Int32 × Int32 × Int32 × Int32 × Int32 × Bool × (Nat → Int32) × (Nat → Int32) × (Nat → Int32) × (Nat → Int32) × (Nat → Int32) × (Nat → Int32)) :=
  if (mX12_isTest (a_frame (f_deep - 1).toNatClampNeg)) = true then
    if (mX12_isWord (6385252 : Int64) f_sign f_word) = true then
      mX12_goesOn_309 f_size f_sign f_signAt f_signEnd f_value f_word f_lexAt f_codes f_in f_deep f_open f_opMany f_operand a_tape a_codeSort a_codeValue a_frame a_phase a_begins a_base a_ops f_faultKind_285 f_faultPlace_285
    else
      if (mX12_isWord (28530 : Int64) f_sign f_word) = true then
        mX12_goesOn_309 f_size f_sign f_signAt f_signEnd f_value f_word f_lexAt f_codes f_in f_deep f_open f_opMany f_operand a_tape a_codeSort a_codeValue a_frame a_phase a_begins a_base a_ops f_faultKind_285 f_faultPlace_285
      else
        mX12_goesOn_400 f_size f_sign f_signAt f_signEnd f_value f_word f_lexAt f_codes f_in f_deep f_open f_opMany f_operand a_tape a_codeSort a_codeValue a_frame a_phase a_begins a_pair a_base a_ops f_faultKind_285 f_faultPlace_285
  else
    mX12_goesOn_400 f_size f_sign f_signAt f_signEnd f_value f_word f_lexAt f_codes f_in f_deep f_open f_opMany f_operand a_tape a_codeSort a_codeValue a_frame a_phase a_begins a_pair a_base a_ops f_faultKind_285 f_faultPlace_285
def mX12_goesOn_264 (f_size : Int32) (f_signEnd : Int32) (f_value : Int32) (f_word : Int64) (f_deep : Int32) (a_tape : Nat → Int32) (a_frame : Nat → Int32) (a_phase : Nat → Int32) (a_begins : Nat → Int32) (a_ops : Nat → Int32)  (s0_264 : Int32) (f_faultKind_264 : Int32) (f_faultPlace_264 : Int32) (f_codes_264 : Int32) (f_open_264 : Int32) (f_opMany_264 : Int32) (a_codeSort_264 : Nat → Int32) (a_codeValue_264 : Nat → Int32) : Option (Bool × Int32 × Int32 × Int32 × Int32 × Int64 × Int32 × Int32 × Int32 × Int32 × Int32 × Int32 × Int32 × Bool × (Nat → Int32) × (Nat → Int32) × (Nat → Int32) × (Nat → Int32) × (Nat → Int32) × (Nat → Int32)) :=
  (mX12_holdsBack s0_264 f_opMany_264 a_ops).bind (xu fun q27_1 => fun q27_2 =>
    (mX12_ahead f_size f_signEnd f_value f_word a_tape).bind (xu fun q28_1 => xu fun q28_2 => xu fun q28_3 => xu fun q28_4 => xu fun q28_5 => fun q28_6 =>
      some (true, q28_1, q28_2, q28_3, q28_4, q28_5, f_faultKind_264, f_faultPlace_264, q28_6, f_codes_264, f_deep, f_open_264, q27_1, false, a_codeSort_264, a_codeValue_264, a_frame, upd a_phase (f_deep - 1).toNatClampNeg 1, a_begins, q27_2)))
def mX12_goesOn_228 (f_size : Int32) (f_sign : Int32) (f_signEnd : Int32) (f_value : Int32) (f_word : Int64) (f_codes : Int32) (f_in : Int32) (f_deep : Int32) (f_open : Int32) (f_opMany : Int32) (a_tape : Nat → Int32) (a_codeSort : Nat → Int32) (a_codeValue : Nat → Int32) (a_frame : Nat → Int32) (a_phase : Nat → Int32) (a_begins : Nat → Int32) (a_base : Nat → Int32) (a_ops : Nat → Int32)  (f_faultKind_228 : Int32) (f_faultPlace_228 : Int32) : Option (Bool × Int32 × Int32 × Int32 × Int32 × Int64 × Int32 × Int32 × Int32 × Int32 × Int32 × Int32 × Int32 × Bool × (Nat → Int32) × (Nat → Int32) × (Nat → Int32) × (Nat → Int32) × (Nat → Int32) × (Nat → Int32)) :=
  (mX12_joins (5 : Int32) f_codes f_in f_deep f_open f_opMany a_codeSort a_codeValue a_base a_ops).bind (xu fun q24_1 => xu fun q24_2 => xu fun q24_3 => xu fun q24_4 => fun q24_5 =>
    if (mX12_isSign (60 : Int32) f_sign f_value) = true then
      mX12_goesOn_264 f_size f_signEnd f_value f_word f_deep a_tape a_frame a_phase a_begins a_ops (38 : Int32) f_faultKind_228 f_faultPlace_228 q24_1 q24_2 q24_3 q24_4 q24_5
    else
      if (mX12_isSign (62 : Int32) f_sign f_value) = true then
        mX12_goesOn_264 f_size f_signEnd f_value f_word f_deep a_tape a_frame a_phase a_begins a_ops (39 : Int32) f_faultKind_228 f_faultPlace_228 q24_1 q24_2 q24_3 q24_4 q24_5
      else
        mX12_goesOn_264 f_size f_signEnd f_value f_word f_deep a_tape a_frame a_phase a_begins a_ops (40 : Int32) f_faultKind_228 f_faultPlace_228 q24_1 q24_2 q24_3 q24_4 q24_5)
def mX12_goesOn_188 (f_size : Int32) (f_sign : Int32) (f_signAt : Int32) (f_signEnd : Int32) (f_value : Int32) (f_word : Int64) (f_lexAt : Int32) (f_codes : Int32) (f_in : Int32) (f_deep : Int32) (f_open : Int32) (f_opMany : Int32) (f_operand : Bool) (a_tape : Nat → Int32) (a_codeSort : Nat → Int32) (a_codeValue : Nat → Int32) (a_frame : Nat → Int32) (a_phase : Nat → Int32) (a_begins : Nat → Int32) (a_pair : Nat → Int32) (a_base : Nat → Int32) (a_ops : Nat → Int32)  (f_faultKind_188 : Int32) (f_faultPlace_188 : Int32) : Option (Bool × Int32 × Int32 × Int32 × Int32 × Int64 × Int32 × Int32 × Int32 × Int32 × Int32 × Int32 × Int32 × Bool × (Nat → Int32) × (Nat → Int32) × (Nat → Int32) × (Nat → Int32) × (Nat → Int32) × (Nat → Int32)) :=
  if (mX12_isTest (a_frame (f_deep - 1).toNatClampNeg)) = true then
    if (a_phase (f_deep - 1).toNatClampNeg) = 0 then
      if (mX12_isSign (60 : Int32) f_sign f_value) = true then
        mX12_goesOn_228 f_size f_sign f_signEnd f_value f_word f_codes f_in f_deep f_open f_opMany a_tape a_codeSort a_codeValue a_frame a_phase a_begins a_base a_ops f_faultKind_188 f_faultPlace_188
      else
        if (mX12_isSign (62 : Int32) f_sign f_value) = true then
          mX12_goesOn_228 f_size f_sign f_signEnd f_value f_word f_codes f_in f_deep f_open f_opMany a_tape a_codeSort a_codeValue a_frame a_phase a_begins a_base a_ops f_faultKind_188 f_faultPlace_188
        else
          if (mX12_isSign (61 : Int32) f_sign f_value) = true then
            mX12_goesOn_228 f_size f_sign f_signEnd f_value f_word f_codes f_in f_deep f_open f_opMany a_tape a_codeSort a_codeValue a_frame a_phase a_begins a_base a_ops f_faultKind_188 f_faultPlace_188
          else
            mX12_goesOn_285 f_size f_sign f_signAt f_signEnd f_value f_word f_lexAt f_codes f_in f_deep f_open f_opMany f_operand a_tape a_codeSort a_codeValue a_frame a_phase a_begins a_pair a_base a_ops f_faultKind_188 f_faultPlace_188
    else
      mX12_goesOn_285 f_size f_sign f_signAt f_signEnd f_value f_word f_lexAt f_codes f_in f_deep f_open f_opMany f_operand a_tape a_codeSort a_codeValue a_frame a_phase a_begins a_pair a_base a_ops f_faultKind_188 f_faultPlace_188
  else
    mX12_goesOn_285 f_size f_sign f_signAt f_signEnd f_value f_word f_lexAt f_codes f_in f_deep f_open f_opMany f_operand a_tape a_codeSort a_codeValue a_frame a_phase a_begins a_pair a_base a_ops f_faultKind_188 f_faultPlace_188
def mX12_goesOn_174 (f_size : Int32) (f_signEnd : Int32) (f_value : Int32) (f_word : Int64) (f_deep : Int32) (a_tape : Nat → Int32) (a_frame : Nat → Int32) (a_phase : Nat → Int32) (a_begins : Nat → Int32) (a_ops : Nat → Int32)  (s0_174 : Int32) (f_faultKind_174 : Int32) (f_faultPlace_174 : Int32) (f_codes_174 : Int32) (f_open_174 : Int32) (f_opMany_174 : Int32) (a_codeSort_174 : Nat → Int32) (a_codeValue_174 : Nat → Int32) : Option (Bool × Int32 × Int32 × Int32 × Int32 × Int64 × Int32 × Int32 × Int32 × Int32 × Int32 × Int32 × Int32 × Bool × (Nat → Int32) × (Nat → Int32) × (Nat → Int32) × (Nat → Int32) × (Nat → Int32) × (Nat → Int32)) :=
  (mX12_holdsBack s0_174 f_opMany_174 a_ops).bind (xu fun q17_1 => fun q17_2 =>
    (mX12_ahead f_size f_signEnd f_value f_word a_tape).bind (xu fun q18_1 => xu fun q18_2 => xu fun q18_3 => xu fun q18_4 => xu fun q18_5 => fun q18_6 =>
      some (true, q18_1, q18_2, q18_3, q18_4, q18_5, f_faultKind_174, f_faultPlace_174, q18_6, f_codes_174, f_deep, f_open_174, q17_1, false, a_codeSort_174, a_codeValue_174, a_frame, a_phase, a_begins, q17_2)))
def mX12_goesOn_112 (f_size : Int32) (f_sign : Int32) (f_signEnd : Int32) (f_value : Int32) (f_word : Int64) (f_codes : Int32) (f_in : Int32) (f_deep : Int32) (f_open : Int32) (f_opMany : Int32) (a_tape : Nat → Int32) (a_codeSort : Nat → Int32) (a_codeValue : Nat → Int32) (a_frame : Nat → Int32) (a_phase : Nat → Int32) (a_begins : Nat → Int32) (a_base : Nat → Int32) (a_ops : Nat → Int32)  (s0_112 : Int32) (f_faultKind_112 : Int32) (f_faultPlace_112 : Int32) : Option (Bool × Int32 × Int32 × Int32 × Int32 × Int64 × Int32 × Int32 × Int32 × Int32 × Int32 × Int32 × Int32 × Bool × (Nat → Int32) × (Nat → Int32) × (Nat → Int32) × (Nat → Int32) × (Nat → Int32) × (Nat → Int32)) :=
  (mX12_joins s0_112 f_codes f_in f_deep f_open f_opMany a_codeSort a_codeValue a_base a_ops).bind (xu fun q12_1 => xu fun q12_2 => xu fun q12_3 => xu fun q12_4 => fun q12_5 =>
    if (mX12_isSign (43 : Int32) f_sign f_value) = true then
      mX12_goesOn_174 f_size f_signEnd f_value f_word f_deep a_tape a_frame a_phase a_begins a_ops (31 : Int32) f_faultKind_112 f_faultPlace_112 q12_1 q12_2 q12_3 q12_4 q12_5
    else
      if (mX12_isSign (45 : Int32) f_sign f_value) = true then
        mX12_goesOn_174 f_size f_signEnd f_value f_word f_deep a_tape a_frame a_phase a_begins a_ops (32 : Int32) f_faultKind_112 f_faultPlace_112 q12_1 q12_2 q12_3 q12_4 q12_5
      else
        if (mX12_isSign (42 : Int32) f_sign f_value) = true then
          mX12_goesOn_174 f_size f_signEnd f_value f_word f_deep a_tape a_frame a_phase a_begins a_ops (33 : Int32) f_faultKind_112 f_faultPlace_112 q12_1 q12_2 q12_3 q12_4 q12_5
        else
          if (mX12_isSign (47 : Int32) f_sign f_value) = true then
            mX12_goesOn_174 f_size f_signEnd f_value f_word f_deep a_tape a_frame a_phase a_begins a_ops (34 : Int32) f_faultKind_112 f_faultPlace_112 q12_1 q12_2 q12_3 q12_4 q12_5
          else
            mX12_goesOn_174 f_size f_signEnd f_value f_word f_deep a_tape a_frame a_phase a_begins a_ops (35 : Int32) f_faultKind_112 f_faultPlace_112 q12_1 q12_2 q12_3 q12_4 q12_5)
def mX12_goesOn_106 (f_size : Int32) (f_sign : Int32) (f_signEnd : Int32) (f_value : Int32) (f_word : Int64) (f_codes : Int32) (f_in : Int32) (f_deep : Int32) (f_open : Int32) (f_opMany : Int32) (a_tape : Nat → Int32) (a_codeSort : Nat → Int32) (a_codeValue : Nat → Int32) (a_frame : Nat → Int32) (a_phase : Nat → Int32) (a_begins : Nat → Int32) (a_base : Nat → Int32) (a_ops : Nat → Int32)  (f_faultKind_106 : Int32) (f_faultPlace_106 : Int32) : Option (Bool × Int32 × Int32 × Int32 × Int32 × Int64 × Int32 × Int32 × Int32 × Int32 × Int32 × Int32 × Int32 × Bool × (Nat → Int32) × (Nat → Int32) × (Nat → Int32) × (Nat → Int32) × (Nat → Int32) × (Nat → Int32)) :=
  mX12_goesOn_112 f_size f_sign f_signEnd f_value f_word f_codes f_in f_deep f_open f_opMany a_tape a_codeSort a_codeValue a_frame a_phase a_begins a_base a_ops (5 : Int32) f_faultKind_106 f_faultPlace_106
def mX12_goesOn_87 (f_size : Int32) (f_sign : Int32) (f_signEnd : Int32) (f_value : Int32) (f_word : Int64) (f_codes : Int32) (f_in : Int32) (f_deep : Int32) (f_open : Int32) (f_opMany : Int32) (a_tape : Nat → Int32) (a_codeSort : Nat → Int32) (a_codeValue : Nat → Int32) (a_frame : Nat → Int32) (a_phase : Nat → Int32) (a_begins : Nat → Int32) (a_base : Nat → Int32) (a_ops : Nat → Int32)  (f_faultKind_87 : Int32) (f_faultPlace_87 : Int32) : Option (Bool × Int32 × Int32 × Int32 × Int32 × Int64 × Int32 × Int32 × Int32 × Int32 × Int32 × Int32 × Int32 × Bool × (Nat → Int32) × (Nat → Int32) × (Nat → Int32) × (Nat → Int32) × (Nat → Int32) × (Nat → Int32)) :=
  if (mX12_isSign (43 : Int32) f_sign f_value) = true then
    mX12_goesOn_106 f_size f_sign f_signEnd f_value f_word f_codes f_in f_deep f_open f_opMany a_tape a_codeSort a_codeValue a_frame a_phase a_begins a_base a_ops f_faultKind_87 f_faultPlace_87
  else
    if (mX12_isSign (45 : Int32) f_sign f_value) = true then
      mX12_goesOn_106 f_size f_sign f_signEnd f_value f_word f_codes f_in f_deep f_open f_opMany a_tape a_codeSort a_codeValue a_frame a_phase a_begins a_base a_ops f_faultKind_87 f_faultPlace_87
    else
      mX12_goesOn_112 f_size f_sign f_signEnd f_value f_word f_codes f_in f_deep f_open f_opMany a_tape a_codeSort a_codeValue a_frame a_phase a_begins a_base a_ops (6 : Int32) f_faultKind_87 f_faultPlace_87
def mX12_goesOn (f_size : Int32) (f_sign : Int32) (f_signAt : Int32) (f_signEnd : Int32) (f_value : Int32) (f_word : Int64) (f_faultKind : Int32) (f_faultPlace : Int32) (f_lexAt : Int32) (f_codes : Int32) (f_in : Int32) (f_deep : Int32) (f_open : Int32) (f_opMany : Int32) (f_operand : Bool) (a_tape : Nat → Int32) (a_codeSort : Nat → Int32) (a_codeValue : Nat → Int32) (a_frame : Nat → Int32) (a_phase : Nat → Int32) (a_begins : Nat → Int32) (a_pair : Nat → Int32) (a_base : Nat → Int32) (a_ops : Nat → Int32) : Option (Bool × Int32 × Int32 × Int32 × Int32 × Int64 × Int32 × Int32 × Int32 × Int32 × Int32 × Int32 × Int32 × Bool × (Nat → Int32) × (Nat → Int32) × (Nat → Int32) × (Nat → Int32) × (Nat → Int32) × (Nat → Int32)) :=
  xlet (mX12_lex f_faultKind f_faultPlace f_lexAt) (xu fun q1_1 => fun q1_2 =>
    if 0 < q1_1 then
      some (false, f_sign, f_signAt, f_signEnd, f_value, f_word, q1_1, q1_2, f_lexAt, f_codes, f_deep, f_open, f_opMany, f_operand, a_codeSort, a_codeValue, a_frame, a_phase, a_begins, a_ops)
    else
      if xinb (f_deep - 1) 20 = true then
        if (a_phase (f_deep - 1).toNatClampNeg) < 2 then
          if (mX12_isSign (43 : Int32) f_sign f_value) = true then
            mX12_goesOn_87 f_size f_sign f_signEnd f_value f_word f_codes f_in f_deep f_open f_opMany a_tape a_codeSort a_codeValue a_frame a_phase a_begins a_base a_ops q1_1 q1_2
          else
            if (mX12_isSign (45 : Int32) f_sign f_value) = true then
              mX12_goesOn_87 f_size f_sign f_signEnd f_value f_word f_codes f_in f_deep f_open f_opMany a_tape a_codeSort a_codeValue a_frame a_phase a_begins a_base a_ops q1_1 q1_2
            else
              if (mX12_isSign (42 : Int32) f_sign f_value) = true then
                mX12_goesOn_87 f_size f_sign f_signEnd f_value f_word f_codes f_in f_deep f_open f_opMany a_tape a_codeSort a_codeValue a_frame a_phase a_begins a_base a_ops q1_1 q1_2
              else
                if (mX12_isSign (47 : Int32) f_sign f_value) = true then
                  mX12_goesOn_87 f_size f_sign f_signEnd f_value f_word f_codes f_in f_deep f_open f_opMany a_tape a_codeSort a_codeValue a_frame a_phase a_begins a_base a_ops q1_1 q1_2
                else
                  if (mX12_isSign (37 : Int32) f_sign f_value) = true then
                    mX12_goesOn_87 f_size f_sign f_signEnd f_value f_word f_codes f_in f_deep f_open f_opMany a_tape a_codeSort a_codeValue a_frame a_phase a_begins a_base a_ops q1_1 q1_2
                  else
                    mX12_goesOn_188 f_size f_sign f_signAt f_signEnd f_value f_word f_lexAt f_codes f_in f_deep f_open f_opMany f_operand a_tape a_codeSort a_codeValue a_frame a_phase a_begins a_pair a_base a_ops q1_1 q1_2
        else
          mX12_goesOn_188 f_size f_sign f_signAt f_signEnd f_value f_word f_lexAt f_codes f_in f_deep f_open f_opMany f_operand a_tape a_codeSort a_codeValue a_frame a_phase a_begins a_pair a_base a_ops q1_1 q1_2
      else none)
def mX12_reads_70  (K43 : Bool → Int32 → Int32 → Int32 → Int32 → Int64 → Int32 → Int32 → Int32 → Int32 → Int32 → Int32 → Int32 → Bool → (Nat → Int32) → (Nat → Int32) → (Nat → Int32) → (Nat → Int32) → (Nat → Int32) → (Nat → Int32) → (Nat → Int32) → (Nat → Int32) → Option (Int32 × Int32 × Int32 × Int32 × Int64 × Int32 × Int32 × Int32 × Int32 × Int32 × Int32 × Int32 × Bool × (Nat → Int32) × (Nat → Int32) × (Nat → Int32) × (Nat → Int32) × (Nat → Int32) × (Nat → Int32) × (Nat → Int32) × (Nat → Int32))) (x2_70 : Bool) (f_sign_70 : Int32) (f_signAt_70 : Int32) (f_signEnd_70 : Int32) (f_value_70 : Int32) (f_word_70 : Int64) (f_faultKind_70 : Int32) (f_faultPlace_70 : Int32) (f_lexAt_70 : Int32) (f_codes_70 : Int32) (f_deep_70 : Int32) (f_open_70 : Int32) (f_opMany_70 : Int32) (f_operand_70 : Bool) (a_codeSort_70 : Nat → Int32) (a_codeValue_70 : Nat → Int32) (a_frame_70 : Nat → Int32) (a_phase_70 : Nat → Int32) (a_begins_70 : Nat → Int32) (a_pair_70 : Nat → Int32) (a_base_70 : Nat → Int32) (a_ops_70 : Nat → Int32) : Option (Int32 × Int32 × Int32 × Int32 × Int64 × Int32 × Int32 × Int32 × Int32 × Int32 × Int32 × Int32 × Bool × (Nat → Int32) × (Nat → Int32) × (Nat → Int32) × (Nat → Int32) × (Nat → Int32) × (Nat → Int32) × (Nat → Int32) × (Nat → Int32)) :=
  if x2_70 = true then
    if f_faultKind_70 = 0 then
      K43 true f_sign_70 f_signAt_70 f_signEnd_70 f_value_70 f_word_70 f_faultKind_70 f_faultPlace_70 f_lexAt_70 f_codes_70 f_deep_70 f_open_70 f_opMany_70 f_operand_70 a_codeSort_70 a_codeValue_70 a_frame_70 a_phase_70 a_begins_70 a_pair_70 a_base_70 a_ops_70
    else
      K43 false f_sign_70 f_signAt_70 f_signEnd_70 f_value_70 f_word_70 f_faultKind_70 f_faultPlace_70 f_lexAt_70 f_codes_70 f_deep_70 f_open_70 f_opMany_70 f_operand_70 a_codeSort_70 a_codeValue_70 a_frame_70 a_phase_70 a_begins_70 a_pair_70 a_base_70 a_ops_70
  else
    K43 false f_sign_70 f_signAt_70 f_signEnd_70 f_value_70 f_word_70 f_faultKind_70 f_faultPlace_70 f_lexAt_70 f_codes_70 f_deep_70 f_open_70 f_opMany_70 f_operand_70 a_codeSort_70 a_codeValue_70 a_frame_70 a_phase_70 a_begins_70 a_pair_70 a_base_70 a_ops_70
def mX12_reads_43 (f_size : Int32) (f_in : Int32) (f_law : Int32) (a_tape : Nat → Int32)  : Nat → Bool → Int32 → Int32 → Int32 → Int32 → Int64 → Int32 → Int32 → Int32 → Int32 → Int32 → Int32 → Int32 → Bool → (Nat → Int32) → (Nat → Int32) → (Nat → Int32) → (Nat → Int32) → (Nat → Int32) → (Nat → Int32) → (Nat → Int32) → (Nat → Int32) → Option (Int32 × Int32 × Int32 × Int32 × Int64 × Int32 × Int32 × Int32 × Int32 × Int32 × Int32 × Int32 × Bool × (Nat → Int32) × (Nat → Int32) × (Nat → Int32) × (Nat → Int32) × (Nat → Int32) × (Nat → Int32) × (Nat → Int32) × (Nat → Int32))
  | 0, x2_43, f_sign_43, f_signAt_43, f_signEnd_43, f_value_43, f_word_43, f_faultKind_43, f_faultPlace_43, f_lexAt_43, f_codes_43, f_deep_43, f_open_43, f_opMany_43, f_operand_43, a_codeSort_43, a_codeValue_43, a_frame_43, a_phase_43, a_begins_43, a_pair_43, a_base_43, a_ops_43 => none
  | k43 + 1, x2_43, f_sign_43, f_signAt_43, f_signEnd_43, f_value_43, f_word_43, f_faultKind_43, f_faultPlace_43, f_lexAt_43, f_codes_43, f_deep_43, f_open_43, f_opMany_43, f_operand_43, a_codeSort_43, a_codeValue_43, a_frame_43, a_phase_43, a_begins_43, a_pair_43, a_base_43, a_ops_43 =>
    if x2_43 = true then
      if f_operand_43 = true then
        (mX12_goesOn f_size f_sign_43 f_signAt_43 f_signEnd_43 f_value_43 f_word_43 f_faultKind_43 f_faultPlace_43 f_lexAt_43 f_codes_43 f_in f_deep_43 f_open_43 f_opMany_43 f_operand_43 a_tape a_codeSort_43 a_codeValue_43 a_frame_43 a_phase_43 a_begins_43 a_pair_43 a_base_43 a_ops_43).bind (xu fun q7_1 => xu fun q7_2 => xu fun q7_3 => xu fun q7_4 => xu fun q7_5 => xu fun q7_6 => xu fun q7_7 => xu fun q7_8 => xu fun q7_9 => xu fun q7_10 => xu fun q7_11 => xu fun q7_12 => xu fun q7_13 => xu fun q7_14 => xu fun q7_15 => xu fun q7_16 => xu fun q7_17 => xu fun q7_18 => xu fun q7_19 => fun q7_20 =>
          mX12_reads_70 (fun zx2_43 zf_sign_43 zf_signAt_43 zf_signEnd_43 zf_value_43 zf_word_43 zf_faultKind_43 zf_faultPlace_43 zf_lexAt_43 zf_codes_43 zf_deep_43 zf_open_43 zf_opMany_43 zf_operand_43 za_codeSort_43 za_codeValue_43 za_frame_43 za_phase_43 za_begins_43 za_pair_43 za_base_43 za_ops_43 => mX12_reads_43 f_size f_in f_law a_tape k43 zx2_43 zf_sign_43 zf_signAt_43 zf_signEnd_43 zf_value_43 zf_word_43 zf_faultKind_43 zf_faultPlace_43 zf_lexAt_43 zf_codes_43 zf_deep_43 zf_open_43 zf_opMany_43 zf_operand_43 za_codeSort_43 za_codeValue_43 za_frame_43 za_phase_43 za_begins_43 za_pair_43 za_base_43 za_ops_43) q7_1 q7_2 q7_3 q7_4 q7_5 q7_6 q7_7 q7_8 q7_9 q7_10 q7_11 q7_12 q7_13 q7_14 q7_15 q7_16 q7_17 q7_18 q7_19 a_pair_43 a_base_43 q7_20)
      else
        (mX12_operand f_size f_sign_43 f_signAt_43 f_signEnd_43 f_value_43 f_word_43 f_faultKind_43 f_faultPlace_43 f_lexAt_43 f_codes_43 f_in f_law f_deep_43 f_open_43 f_opMany_43 a_tape a_codeSort_43 a_codeValue_43 a_frame_43 a_phase_43 a_begins_43 a_pair_43 a_base_43 a_ops_43).bind (xu fun q8_1 => xu fun q8_2 => xu fun q8_3 => xu fun q8_4 => xu fun q8_5 => xu fun q8_6 => xu fun q8_7 => xu fun q8_8 => xu fun q8_9 => xu fun q8_10 => xu fun q8_11 => xu fun q8_12 => xu fun q8_13 => xu fun q8_14 => xu fun q8_15 => xu fun q8_16 => xu fun q8_17 => xu fun q8_18 => xu fun q8_19 => xu fun q8_20 => fun q8_21 =>
          mX12_reads_70 (fun zx2_43 zf_sign_43 zf_signAt_43 zf_signEnd_43 zf_value_43 zf_word_43 zf_faultKind_43 zf_faultPlace_43 zf_lexAt_43 zf_codes_43 zf_deep_43 zf_open_43 zf_opMany_43 zf_operand_43 za_codeSort_43 za_codeValue_43 za_frame_43 za_phase_43 za_begins_43 za_pair_43 za_base_43 za_ops_43 => mX12_reads_43 f_size f_in f_law a_tape k43 zx2_43 zf_sign_43 zf_signAt_43 zf_signEnd_43 zf_value_43 zf_word_43 zf_faultKind_43 zf_faultPlace_43 zf_lexAt_43 zf_codes_43 zf_deep_43 zf_open_43 zf_opMany_43 zf_operand_43 za_codeSort_43 za_codeValue_43 za_frame_43 za_phase_43 za_begins_43 za_pair_43 za_base_43 za_ops_43) x2_43 q8_2 q8_3 q8_4 q8_5 q8_6 q8_7 q8_8 q8_9 q8_10 q8_11 q8_12 q8_13 q8_1 q8_14 q8_15 q8_16 q8_17 q8_18 q8_19 q8_20 q8_21)
    else
      some (f_sign_43, f_signAt_43, f_signEnd_43, f_value_43, f_word_43, f_faultKind_43, f_faultPlace_43, f_lexAt_43, f_codes_43, f_deep_43, f_open_43, f_opMany_43, f_operand_43, a_codeSort_43, a_codeValue_43, a_frame_43, a_phase_43, a_begins_43, a_pair_43, a_base_43, a_ops_43)
def mX12_reads (v_test : Bool) (f_size : Int32) (f_sign : Int32) (f_signAt : Int32) (f_signEnd : Int32) (f_value : Int32) (f_word : Int64) (f_faultKind : Int32) (f_faultPlace : Int32) (f_lexAt : Int32) (f_codes : Int32) (f_in : Int32) (f_law : Int32) (f_deep : Int32) (f_open : Int32) (f_opMany : Int32) (f_operand : Bool) (a_tape : Nat → Int32) (a_codeSort : Nat → Int32) (a_codeValue : Nat → Int32) (a_frame : Nat → Int32) (a_phase : Nat → Int32) (a_begins : Nat → Int32) (a_pair : Nat → Int32) (a_base : Nat → Int32) (a_ops : Nat → Int32) : Option (Int32 × Int32 × Int32 × Int32 × Int64 × Int32 × Int32 × Int32 × Int32 × Int32 × Int32 × Int32 × Bool × (Nat → Int32) × (Nat → Int32) × (Nat → Int32) × (Nat → Int32) × (Nat → Int32) × (Nat → Int32) × (Nat → Int32) × (Nat → Int32)) :=
  if 0 < f_faultKind then
    some (f_sign, f_signAt, f_signEnd, f_value, f_word, f_faultKind, f_faultPlace, f_lexAt, f_codes, f_deep, f_open, f_opMany, f_operand, a_codeSort, a_codeValue, a_frame, a_phase, a_begins, a_pair, a_base, a_ops)
  else
    if v_test = true then
      (mX12_pushes (1 : Int32) (0 : Int32) (0 : Int32) a_frame a_phase a_begins a_base).bind (xu fun q3_1 => xu fun q3_2 => xu fun q3_3 => xu fun q3_4 => fun q3_5 =>
        mX12_reads_43 f_size f_in f_law a_tape xfuel true f_sign f_signAt f_signEnd f_value f_word f_faultKind f_faultPlace f_lexAt f_codes q3_1 (0 : Int32) (0 : Int32) false a_codeSort a_codeValue q3_2 q3_3 q3_4 a_pair q3_5 a_ops)
    else
      (mX12_pushes (0 : Int32) (0 : Int32) (0 : Int32) a_frame a_phase a_begins a_base).bind (xu fun q4_1 => xu fun q4_2 => xu fun q4_3 => xu fun q4_4 => fun q4_5 =>
        mX12_reads_43 f_size f_in f_law a_tape xfuel true f_sign f_signAt f_signEnd f_value f_word f_faultKind f_faultPlace f_lexAt f_codes q4_1 (0 : Int32) (0 : Int32) false a_codeSort a_codeValue q4_2 q4_3 q4_4 a_pair q4_5 a_ops)
def mX12_isCounted_21 (f_size : Int32) (f_sign : Int32) (f_signAt : Int32) (f_signEnd : Int32) (f_value : Int32) (f_word : Int64) (f_lexAt : Int32) (a_tape : Nat → Int32)  (f_faultKind_21 : Int32) (f_faultPlace_21 : Int32) : Option (Bool × Int32 × Int32 × Int32 × Int32 × Int64 × Int32 × Int32 × Int32) :=
  if f_faultKind_21 = 0 then
    (mX12_ahead f_size f_signEnd f_value f_word a_tape).bind (xu fun q5_1 => xu fun q5_2 => xu fun q5_3 => xu fun q5_4 => xu fun q5_5 => fun q5_6 =>
      some (true, q5_1, q5_2, q5_3, q5_4, q5_5, f_faultKind_21, f_faultPlace_21, q5_6))
  else
    some (false, f_sign, f_signAt, f_signEnd, f_value, f_word, f_faultKind_21, f_faultPlace_21, f_lexAt)
def mX12_isCounted (v_full : Bool) (f_size : Int32) (f_sign : Int32) (f_signAt : Int32) (f_signEnd : Int32) (f_value : Int32) (f_word : Int64) (f_faultKind : Int32) (f_faultPlace : Int32) (f_lexAt : Int32) (a_tape : Nat → Int32) : Option (Bool × Int32 × Int32 × Int32 × Int32 × Int64 × Int32 × Int32 × Int32) :=
  if f_faultKind = 0 then
    if v_full = true then
      xlet (mX12_blame (6 : Int32) f_signAt f_faultKind f_faultPlace) (xu fun q3_1 => fun q3_2 =>
        mX12_isCounted_21 f_size f_sign f_signAt f_signEnd f_value f_word f_lexAt a_tape q3_1 q3_2)
    else
      mX12_isCounted_21 f_size f_sign f_signAt f_signEnd f_value f_word f_lexAt a_tape f_faultKind f_faultPlace
  else
    mX12_isCounted_21 f_size f_sign f_signAt f_signEnd f_value f_word f_lexAt a_tape f_faultKind f_faultPlace
def mX12_mustWord_29 (f_size : Int32) (f_sign : Int32) (f_signAt : Int32) (f_signEnd : Int32) (f_value : Int32) (f_word : Int64) (f_lexAt : Int32) (a_tape : Nat → Int32)  (f_faultKind_29 : Int32) (f_faultPlace_29 : Int32) : Option (Int32 × Int32 × Int32 × Int32 × Int64 × Int32 × Int32 × Int32) :=
  if f_faultKind_29 = 0 then
    (mX12_ahead f_size f_signEnd f_value f_word a_tape).bind (xu fun q6_1 => xu fun q6_2 => xu fun q6_3 => xu fun q6_4 => xu fun q6_5 => fun q6_6 =>
      some (q6_1, q6_2, q6_3, q6_4, q6_5, f_faultKind_29, f_faultPlace_29, q6_6))
  else
    some (f_sign, f_signAt, f_signEnd, f_value, f_word, f_faultKind_29, f_faultPlace_29, f_lexAt)
def mX12_mustWord (v_w : Int64) (f_size : Int32) (f_sign : Int32) (f_signAt : Int32) (f_signEnd : Int32) (f_value : Int32) (f_word : Int64) (f_faultKind : Int32) (f_faultPlace : Int32) (f_lexAt : Int32) (a_tape : Nat → Int32) : Option (Int32 × Int32 × Int32 × Int32 × Int64 × Int32 × Int32 × Int32) :=
  xlet (mX12_lex f_faultKind f_faultPlace f_lexAt) (xu fun q1_1 => fun q1_2 =>
    if 0 < q1_1 then
      some (f_sign, f_signAt, f_signEnd, f_value, f_word, q1_1, q1_2, f_lexAt)
    else
      if (mX12_isWord v_w f_sign f_word) = true then
        mX12_mustWord_29 f_size f_sign f_signAt f_signEnd f_value f_word f_lexAt a_tape q1_1 q1_2
      else
        xlet (mX12_blame (1 : Int32) f_signAt q1_1 q1_2) (xu fun q4_1 => fun q4_2 =>
          mX12_mustWord_29 f_size f_sign f_signAt f_signEnd f_value f_word f_lexAt a_tape q4_1 q4_2))
def mX12_unitsIs (f_size : Int32) (f_sign : Int32) (f_signAt : Int32) (f_signEnd : Int32) (f_value : Int32) (f_word : Int64) (f_faultKind : Int32) (f_faultPlace : Int32) (f_lexAt : Int32) (f_in : Int32) (a_tape : Nat → Int32) (a_unitsTold : Nat → Int32) : Option (Int32 × Int32 × Int32 × Int32 × Int64 × Int32 × Int32 × Int32 × (Nat → Int32)) :=
  (mX12_mustWord (504363578483 : Int64) f_size f_sign f_signAt f_signEnd f_value f_word f_faultKind f_faultPlace f_lexAt a_tape).bind (xu fun q1_1 => xu fun q1_2 => xu fun q1_3 => xu fun q1_4 => xu fun q1_5 => xu fun q1_6 => xu fun q1_7 => fun q1_8 =>
    (mX12_number (8 : Int32) (99 : Int32) f_size q1_1 q1_2 q1_3 q1_4 q1_5 q1_6 q1_7 q1_8 a_tape).bind (xu fun q2_1 => xu fun q2_2 => xu fun q2_3 => xu fun q2_4 => xu fun q2_5 => xu fun q2_6 => xu fun q2_7 => xu fun q2_8 => fun q2_9 =>
      if xinb f_in 2 = true then
        some (q2_2, q2_3, q2_4, q2_5, q2_6, q2_7, q2_8, q2_9, upd a_unitsTold f_in.toNatClampNeg q2_1)
      else none))
def mX12_thingIs_95 (f_size : Int32) (f_in : Int32) (f_trainRead : Int32) (a_tape : Nat → Int32) (a_unitsTold : Nat → Int32) (a_told : Nat → Int32) (a_sizeTold : Nat → Int32) (a_trainTold : Nat → Int32) (a_linksTold : Nat → Int32) (a_thingName : Nat → Int64)  (f_sign_95 : Int32) (f_signAt_95 : Int32) (f_signEnd_95 : Int32) (f_value_95 : Int32) (f_word_95 : Int64) (f_faultKind_95 : Int32) (f_faultPlace_95 : Int32) (f_lexAt_95 : Int32) : Option (Int32 × Int32 × Int32 × Int32 × Int64 × Int32 × Int32 × Int32 × (Nat → Int32) × (Nat → Int32) × (Nat → Int32) × (Nat → Int32) × (Nat → Int64)) :=
  if 0 < f_faultKind_95 then
    some (f_sign_95, f_signAt_95, f_signEnd_95, f_value_95, f_word_95, f_faultKind_95, f_faultPlace_95, f_lexAt_95, a_told, a_sizeTold, a_trainTold, a_linksTold, a_thingName)
  else
    if xinb ((24 * f_in) + (a_told f_in.toNatClampNeg)) 48 = true then
      (mX12_ahead f_size f_signEnd_95 f_value_95 f_word_95 a_tape).bind (xu fun q16_1 => xu fun q16_2 => xu fun q16_3 => xu fun q16_4 => xu fun q16_5 => fun q16_6 =>
        (mX12_mustWord (1936292453 : Int64) f_size q16_1 q16_2 q16_3 q16_4 q16_5 f_faultKind_95 f_faultPlace_95 q16_6 a_tape).bind (xu fun q17_1 => xu fun q17_2 => xu fun q17_3 => xu fun q17_4 => xu fun q17_5 => xu fun q17_6 => xu fun q17_7 => fun q17_8 =>
          (mX12_number (1 : Int32) (a_unitsTold f_in.toNatClampNeg) f_size q17_1 q17_2 q17_3 q17_4 q17_5 q17_6 q17_7 q17_8 a_tape).bind (xu fun q18_1 => xu fun q18_2 => xu fun q18_3 => xu fun q18_4 => xu fun q18_5 => xu fun q18_6 => xu fun q18_7 => xu fun q18_8 => fun q18_9 =>
            if q18_7 = 0 then
              some (q18_2, q18_3, q18_4, q18_5, q18_6, q18_7, q18_8, q18_9, upd a_told f_in.toNatClampNeg ((a_told f_in.toNatClampNeg) + 1), upd a_sizeTold ((24 * f_in) + (a_told f_in.toNatClampNeg)).toNatClampNeg q18_1, upd a_trainTold ((24 * f_in) + (a_told f_in.toNatClampNeg)).toNatClampNeg f_trainRead, upd a_linksTold ((24 * f_in) + (a_told f_in.toNatClampNeg)).toNatClampNeg 0, vp_updL a_thingName ((24 * f_in) + (a_told f_in.toNatClampNeg)).toNatClampNeg f_word_95)
            else
              some (q18_2, q18_3, q18_4, q18_5, q18_6, q18_7, q18_8, q18_9, a_told, upd a_sizeTold ((24 * f_in) + (a_told f_in.toNatClampNeg)).toNatClampNeg q18_1, upd a_trainTold ((24 * f_in) + (a_told f_in.toNatClampNeg)).toNatClampNeg f_trainRead, upd a_linksTold ((24 * f_in) + (a_told f_in.toNatClampNeg)).toNatClampNeg 0, vp_updL a_thingName ((24 * f_in) + (a_told f_in.toNatClampNeg)).toNatClampNeg f_word_95))))
    else none
def mX12_thingIs_67 (f_size : Int32) (f_in : Int32) (f_trainRead : Int32) (a_tape : Nat → Int32) (a_unitsTold : Nat → Int32) (a_told : Nat → Int32) (a_sizeTold : Nat → Int32) (a_trainTold : Nat → Int32) (a_linksTold : Nat → Int32) (a_thingName : Nat → Int64)  (f_sign_67 : Int32) (f_signAt_67 : Int32) (f_signEnd_67 : Int32) (f_value_67 : Int32) (f_word_67 : Int64) (f_faultKind_67 : Int32) (f_faultPlace_67 : Int32) (f_lexAt_67 : Int32) : Option (Int32 × Int32 × Int32 × Int32 × Int64 × Int32 × Int32 × Int32 × (Nat → Int32) × (Nat → Int32) × (Nat → Int32) × (Nat → Int32) × (Nat → Int64)) :=
  if f_faultKind_67 = 0 then
    (mX12_thingNamed f_word_67 f_in a_told a_thingName).bind (fun q11 =>
      if q11 = (-1) then
        mX12_thingIs_95 f_size f_in f_trainRead a_tape a_unitsTold a_told a_sizeTold a_trainTold a_linksTold a_thingName f_sign_67 f_signAt_67 f_signEnd_67 f_value_67 f_word_67 f_faultKind_67 f_faultPlace_67 f_lexAt_67
      else
        xlet (mX12_blame (2 : Int32) f_signAt_67 f_faultKind_67 f_faultPlace_67) (xu fun q13_1 => fun q13_2 =>
          mX12_thingIs_95 f_size f_in f_trainRead a_tape a_unitsTold a_told a_sizeTold a_trainTold a_linksTold a_thingName f_sign_67 f_signAt_67 f_signEnd_67 f_value_67 f_word_67 q13_1 q13_2 f_lexAt_67))
  else
    mX12_thingIs_95 f_size f_in f_trainRead a_tape a_unitsTold a_told a_sizeTold a_trainTold a_linksTold a_thingName f_sign_67 f_signAt_67 f_signEnd_67 f_value_67 f_word_67 f_faultKind_67 f_faultPlace_67 f_lexAt_67
def mX12_thingIs_58 (f_size : Int32) (f_in : Int32) (f_trainRead : Int32) (a_tape : Nat → Int32) (a_unitsTold : Nat → Int32) (a_told : Nat → Int32) (a_sizeTold : Nat → Int32) (a_trainTold : Nat → Int32) (a_linksTold : Nat → Int32) (a_thingName : Nat → Int64)  (f_sign_58 : Int32) (f_signAt_58 : Int32) (f_signEnd_58 : Int32) (f_value_58 : Int32) (f_word_58 : Int64) (f_faultKind_58 : Int32) (f_faultPlace_58 : Int32) (f_lexAt_58 : Int32) : Option (Int32 × Int32 × Int32 × Int32 × Int64 × Int32 × Int32 × Int32 × (Nat → Int32) × (Nat → Int32) × (Nat → Int32) × (Nat → Int32) × (Nat → Int64)) :=
  xlet (mX12_blame (1 : Int32) f_signAt_58 f_faultKind_58 f_faultPlace_58) (xu fun q9_1 => fun q9_2 =>
    mX12_thingIs_67 f_size f_in f_trainRead a_tape a_unitsTold a_told a_sizeTold a_trainTold a_linksTold a_thingName f_sign_58 f_signAt_58 f_signEnd_58 f_value_58 f_word_58 q9_1 q9_2 f_lexAt_58)
def mX12_thingIs_20 (f_size : Int32) (f_sign : Int32) (f_signAt : Int32) (f_signEnd : Int32) (f_value : Int32) (f_word : Int64) (f_faultKind : Int32) (f_faultPlace : Int32) (f_lexAt : Int32) (f_in : Int32) (f_trainRead : Int32) (a_tape : Nat → Int32) (a_unitsTold : Nat → Int32) (a_told : Nat → Int32) (a_sizeTold : Nat → Int32) (a_trainTold : Nat → Int32) (a_linksTold : Nat → Int32) (a_thingName : Nat → Int64)  (s0_20 : Bool) : Option (Int32 × Int32 × Int32 × Int32 × Int64 × Int32 × Int32 × Int32 × (Nat → Int32) × (Nat → Int32) × (Nat → Int32) × (Nat → Int32) × (Nat → Int64)) :=
  (mX12_isCounted s0_20 f_size f_sign f_signAt f_signEnd f_value f_word f_faultKind f_faultPlace f_lexAt a_tape).bind (xu fun q3_1 => xu fun q3_2 => xu fun q3_3 => xu fun q3_4 => xu fun q3_5 => xu fun q3_6 => xu fun q3_7 => xu fun q3_8 => fun q3_9 =>
    if q3_1 = true then
      xlet (mX12_lex q3_7 q3_8 q3_9) (xu fun q5_1 => fun q5_2 =>
        if 0 < q5_1 then
          some (q3_2, q3_3, q3_4, q3_5, q3_6, q5_1, q5_2, q3_9, a_told, a_sizeTold, a_trainTold, a_linksTold, a_thingName)
        else
          if q3_2 = 1 then
            if (mX12_isOwn q3_6) = true then
              mX12_thingIs_58 f_size f_in f_trainRead a_tape a_unitsTold a_told a_sizeTold a_trainTold a_linksTold a_thingName q3_2 q3_3 q3_4 q3_5 q3_6 q5_1 q5_2 q3_9
            else
              mX12_thingIs_67 f_size f_in f_trainRead a_tape a_unitsTold a_told a_sizeTold a_trainTold a_linksTold a_thingName q3_2 q3_3 q3_4 q3_5 q3_6 q5_1 q5_2 q3_9
          else
            mX12_thingIs_58 f_size f_in f_trainRead a_tape a_unitsTold a_told a_sizeTold a_trainTold a_linksTold a_thingName q3_2 q3_3 q3_4 q3_5 q3_6 q5_1 q5_2 q3_9)
    else
      some (q3_2, q3_3, q3_4, q3_5, q3_6, q3_7, q3_8, q3_9, a_told, a_sizeTold, a_trainTold, a_linksTold, a_thingName))
def mX12_thingIs (f_size : Int32) (f_sign : Int32) (f_signAt : Int32) (f_signEnd : Int32) (f_value : Int32) (f_word : Int64) (f_faultKind : Int32) (f_faultPlace : Int32) (f_lexAt : Int32) (f_in : Int32) (f_trainRead : Int32) (a_tape : Nat → Int32) (a_unitsTold : Nat → Int32) (a_told : Nat → Int32) (a_sizeTold : Nat → Int32) (a_trainTold : Nat → Int32) (a_linksTold : Nat → Int32) (a_thingName : Nat → Int64) : Option (Int32 × Int32 × Int32 × Int32 × Int64 × Int32 × Int32 × Int32 × (Nat → Int32) × (Nat → Int32) × (Nat → Int32) × (Nat → Int32) × (Nat → Int64)) :=
  if xinb f_in 2 = true then
    if (a_told f_in.toNatClampNeg) = 24 then
      mX12_thingIs_20 f_size f_sign f_signAt f_signEnd f_value f_word f_faultKind f_faultPlace f_lexAt f_in f_trainRead a_tape a_unitsTold a_told a_sizeTold a_trainTold a_linksTold a_thingName true
    else
      mX12_thingIs_20 f_size f_sign f_signAt f_signEnd f_value f_word f_faultKind f_faultPlace f_lexAt f_in f_trainRead a_tape a_unitsTold a_told a_sizeTold a_trainTold a_linksTold a_thingName false
  else none
def mX12_nextIs (f_size : Int32) (f_sign : Int32) (f_signAt : Int32) (f_signEnd : Int32) (f_value : Int32) (f_word : Int64) (f_faultKind : Int32) (f_faultPlace : Int32) (f_lexAt : Int32) (f_in : Int32) (f_trainRead : Int32) (a_tape : Nat → Int32) (a_told : Nat → Int32) (a_trainTold : Nat → Int32) : Option (Int32 × Int32 × Int32 × Int32 × Int64 × Int32 × Int32 × Int32 × Int32) :=
  (mX12_isCounted false f_size f_sign f_signAt f_signEnd f_value f_word f_faultKind f_faultPlace f_lexAt a_tape).bind (xu fun q1_1 => xu fun q1_2 => xu fun q1_3 => xu fun q1_4 => xu fun q1_5 => xu fun q1_6 => xu fun q1_7 => xu fun q1_8 => fun q1_9 =>
    if q1_1 = true then
      if xinb f_in 2 = true then
        if 0 < (a_told f_in.toNatClampNeg) then
          if xinb (((24 * f_in) + (a_told f_in.toNatClampNeg)) - 1) 48 = true then
            if (a_trainTold (((24 * f_in) + (a_told f_in.toNatClampNeg)) - 1).toNatClampNeg) = f_trainRead then
              some (q1_2, q1_3, q1_4, q1_5, q1_6, q1_7, q1_8, q1_9, f_trainRead + 1)
            else
              some (q1_2, q1_3, q1_4, q1_5, q1_6, q1_7, q1_8, q1_9, f_trainRead)
          else none
        else
          some (q1_2, q1_3, q1_4, q1_5, q1_6, q1_7, q1_8, q1_9, f_trainRead)
      else none
    else
      some (q1_2, q1_3, q1_4, q1_5, q1_6, q1_7, q1_8, q1_9, f_trainRead))
def mX12_known_82 (f_size : Int32) (f_sign : Int32) (f_signAt : Int32) (f_signEnd : Int32) (f_value : Int32) (f_word : Int64) (f_lexAt : Int32) (a_tape : Nat → Int32)  (x1_82 : Int32) (f_faultKind_82 : Int32) (f_faultPlace_82 : Int32) : Option (Int32 × Int32 × Int32 × Int32 × Int32 × Int64 × Int32 × Int32 × Int32) :=
  if f_faultKind_82 = 0 then
    (mX12_ahead f_size f_signEnd f_value f_word a_tape).bind (xu fun q12_1 => xu fun q12_2 => xu fun q12_3 => xu fun q12_4 => xu fun q12_5 => fun q12_6 =>
      if 0 < f_faultKind_82 then
        some ((0 : Int32), q12_1, q12_2, q12_3, q12_4, q12_5, f_faultKind_82, f_faultPlace_82, q12_6)
      else
        some (x1_82, q12_1, q12_2, q12_3, q12_4, q12_5, f_faultKind_82, f_faultPlace_82, q12_6))
  else
    if 0 < f_faultKind_82 then
      some ((0 : Int32), f_sign, f_signAt, f_signEnd, f_value, f_word, f_faultKind_82, f_faultPlace_82, f_lexAt)
    else
      some (x1_82, f_sign, f_signAt, f_signEnd, f_value, f_word, f_faultKind_82, f_faultPlace_82, f_lexAt)
def mX12_known_60 (f_size : Int32) (f_sign : Int32) (f_signAt : Int32) (f_signEnd : Int32) (f_value : Int32) (f_word : Int64) (f_lexAt : Int32) (a_tape : Nat → Int32)  (s0_60 : Int32) (f_faultKind_60 : Int32) (f_faultPlace_60 : Int32) : Option (Int32 × Int32 × Int32 × Int32 × Int32 × Int64 × Int32 × Int32 × Int32) :=
  if f_faultKind_60 = 0 then
    if s0_60 = (-1) then
      xlet (mX12_blame (3 : Int32) f_signAt f_faultKind_60 f_faultPlace_60) (xu fun q10_1 => fun q10_2 =>
        mX12_known_82 f_size f_sign f_signAt f_signEnd f_value f_word f_lexAt a_tape s0_60 q10_1 q10_2)
    else
      mX12_known_82 f_size f_sign f_signAt f_signEnd f_value f_word f_lexAt a_tape s0_60 f_faultKind_60 f_faultPlace_60
  else
    mX12_known_82 f_size f_sign f_signAt f_signEnd f_value f_word f_lexAt a_tape s0_60 f_faultKind_60 f_faultPlace_60
def mX12_known_41 (f_size : Int32) (f_sign : Int32) (f_signAt : Int32) (f_signEnd : Int32) (f_value : Int32) (f_word : Int64) (f_lexAt : Int32) (f_in : Int32) (a_tape : Nat → Int32) (a_told : Nat → Int32) (a_thingName : Nat → Int64)  (f_faultKind_41 : Int32) (f_faultPlace_41 : Int32) : Option (Int32 × Int32 × Int32 × Int32 × Int32 × Int64 × Int32 × Int32 × Int32) :=
  if 0 < f_faultKind_41 then
    mX12_known_60 f_size f_sign f_signAt f_signEnd f_value f_word f_lexAt a_tape (0 : Int32) f_faultKind_41 f_faultPlace_41
  else
    (mX12_thingNamed f_word f_in a_told a_thingName).bind (fun q7 =>
      mX12_known_60 f_size f_sign f_signAt f_signEnd f_value f_word f_lexAt a_tape q7 f_faultKind_41 f_faultPlace_41)
def mX12_known_32 (f_size : Int32) (f_sign : Int32) (f_signAt : Int32) (f_signEnd : Int32) (f_value : Int32) (f_word : Int64) (f_lexAt : Int32) (f_in : Int32) (a_tape : Nat → Int32) (a_told : Nat → Int32) (a_thingName : Nat → Int64)  (f_faultKind_32 : Int32) (f_faultPlace_32 : Int32) : Option (Int32 × Int32 × Int32 × Int32 × Int32 × Int64 × Int32 × Int32 × Int32) :=
  xlet (mX12_blame (1 : Int32) f_signAt f_faultKind_32 f_faultPlace_32) (xu fun q5_1 => fun q5_2 =>
    mX12_known_41 f_size f_sign f_signAt f_signEnd f_value f_word f_lexAt f_in a_tape a_told a_thingName q5_1 q5_2)
def mX12_known (f_size : Int32) (f_sign : Int32) (f_signAt : Int32) (f_signEnd : Int32) (f_value : Int32) (f_word : Int64) (f_faultKind : Int32) (f_faultPlace : Int32) (f_lexAt : Int32) (f_in : Int32) (a_tape : Nat → Int32) (a_told : Nat → Int32) (a_thingName : Nat → Int64) : Option (Int32 × Int32 × Int32 × Int32 × Int32 × Int64 × Int32 × Int32 × Int32) :=
  xlet (mX12_lex f_faultKind f_faultPlace f_lexAt) (xu fun q1_1 => fun q1_2 =>
    if 0 < q1_1 then
      some ((0 : Int32), f_sign, f_signAt, f_signEnd, f_value, f_word, q1_1, q1_2, f_lexAt)
    else
      if f_sign = 1 then
        if (mX12_isOwn f_word) = true then
          mX12_known_32 f_size f_sign f_signAt f_signEnd f_value f_word f_lexAt f_in a_tape a_told a_thingName q1_1 q1_2
        else
          mX12_known_41 f_size f_sign f_signAt f_signEnd f_value f_word f_lexAt f_in a_tape a_told a_thingName q1_1 q1_2
      else
        mX12_known_32 f_size f_sign f_signAt f_signEnd f_value f_word f_lexAt f_in a_tape a_told a_thingName q1_1 q1_2)
