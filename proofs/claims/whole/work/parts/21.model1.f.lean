def mX12_is (v_v : Int32) (v_least : Int32) (v_most : Int32) : Bool :=
  if v_v < v_least then
    false
  else
    if v_most < v_v then
      false
    else
      true
def mX12_put (v_v : Int32) (f_taped : Int32) (a_tape : Nat → Int32) : Option (Int32 × (Nat → Int32)) :=
  if xinb f_taped 1800 = true then
    if xinb (f_taped + 1) 1800 = true then
      if xinb ((f_taped + 1) + 1) 1800 = true then
        if xinb (((f_taped + 1) + 1) + 1) 1800 = true then
          some ((((f_taped + 1) + 1) + 1) + 1, upd (upd (upd (upd a_tape f_taped.toNatClampNeg ((v_v >>> (24 &&& 31)) &&& 255)) (f_taped + 1).toNatClampNeg ((v_v >>> (16 &&& 31)) &&& 255)) ((f_taped + 1) + 1).toNatClampNeg ((v_v >>> (8 &&& 31)) &&& 255)) (((f_taped + 1) + 1) + 1).toNatClampNeg ((v_v >>> (0 &&& 31)) &&& 255))
        else none
      else none
    else none
  else none
def mX12_refuses (v_why : Int32) (a_refused : Nat → Int32) : Option (Int32 × (Nat → Int32)) :=
  if xinb v_why 6 = true then
    some (((-1) : Int32), upd a_refused v_why.toNatClampNeg ((a_refused v_why.toNatClampNeg) + 1))
  else none
def mX12_feed (v_a : Int32) (v_b : Int32) (v_c : Int32) (v_d : Int32) (v_e : Int32) (f_taped : Int32) (a_tape : Nat → Int32) (a_refused : Nat → Int32) : Option (Int32 × Int32 × (Nat → Int32) × (Nat → Int32)) :=
  if 1600 < (f_taped + 20) then
    (mX12_refuses (0 : Int32) a_refused).bind (xu fun q2_1 => fun q2_2 =>
      some (q2_1, f_taped, a_tape, q2_2))
  else
    (mX12_put v_a f_taped a_tape).bind (xu fun q3_1 => fun q3_2 =>
      (mX12_put v_b q3_1 q3_2).bind (xu fun q4_1 => fun q4_2 =>
        (mX12_put v_c q4_1 q4_2).bind (xu fun q5_1 => fun q5_2 =>
          (mX12_put v_d q5_1 q5_2).bind (xu fun q6_1 => fun q6_2 =>
            (mX12_put v_e q6_1 q6_2).bind (xu fun q7_1 => fun q7_2 =>
              some (q7_1, q7_1, q7_2, a_refused))))))
def mX12_end_12 (f_taped : Int32) (a_refused : Nat → Int32)   : Option (Bool × Int32 × (Nat → Int32)) :=
  (mX12_refuses (0 : Int32) a_refused).bind (xu fun q3_1 => fun q3_2 =>
    if q3_1 < 0 then
      some (false, f_taped, q3_2)
    else
      some (true, f_taped, q3_2))
def mX12_end (v_n : Int32) (f_taped : Int32) (a_refused : Nat → Int32) : Option (Bool × Int32 × (Nat → Int32)) :=
  if v_n < 0 then
    mX12_end_12 f_taped a_refused
  else
    if f_taped < v_n then
      mX12_end_12 f_taped a_refused
    else
      some (true, v_n, a_refused)
def mX12_blame (v_kind : Int32) (v_place : Int32) (f_faultKind : Int32) (f_faultPlace : Int32) : Int32 × Int32 :=
  if 0 < f_faultKind then
    (f_faultKind, f_faultPlace)
  else
    (v_kind, v_place)
def mX12_isLetter (v_c : Int32) : Bool :=
  if v_c < 97 then
    false
  else
    if 122 < v_c then
      false
    else
      true
def mX12_isDigit (v_c : Int32) : Bool :=
  if v_c < 48 then
    false
  else
    if 57 < v_c then
      false
    else
      true
def mX12_lex (f_faultKind : Int32) (f_faultPlace : Int32) (f_lexAt : Int32) : Int32 × Int32 :=
  if f_lexAt = (-1) then
    (f_faultKind, f_faultPlace)
  else
    xlet (mX12_blame (1 : Int32) f_lexAt f_faultKind f_faultPlace) (xu fun q2_1 => fun q2_2 =>
      (q2_1, q2_2))
def mX12_ahead_293 (a_tape : Nat → Int32) (f_signAt_204 : Int32) (f_signEnd_204 : Int32) (f_sign_204 : Int32) (f_value_204 : Int32) (x1_204 : Int32) (x2_204 : Bool) (x3_204 : Bool) (x4_204 : Int32) (x5_204 : Int32) (K204 : Int32 → Bool → Bool → Int32 → Int32 → Int32 → Int32 → Int32 → Int32 → Int64 → Int32 → Option (Int32 × Int32 × Int32 × Int32 × Int64 × Int32)) (f_word_293 : Int64) (f_lexAt_293 : Int32) : Option (Int32 × Int32 × Int32 × Int32 × Int64 × Int32) :=
  if x5_204 < x4_204 then
    if x3_204 = true then
      K204 (x1_204 + 1) x2_204 x3_204 x4_204 (x5_204 + 1) f_sign_204 f_signAt_204 f_signEnd_204 (((10 * f_value_204) + (a_tape x1_204.toNatClampNeg)) - 48) f_word_293 f_lexAt_293
    else
      K204 (x1_204 + 1) x2_204 x3_204 x4_204 (x5_204 + 1) f_sign_204 f_signAt_204 f_signEnd_204 f_value_204 f_word_293 f_lexAt_293
  else
    K204 (x1_204 + 1) x2_204 x3_204 x4_204 (x5_204 + 1) f_sign_204 f_signAt_204 f_signEnd_204 f_value_204 f_word_293 f_lexAt_293
def mX12_ahead_263 (a_tape : Nat → Int32) (f_signAt_204 : Int32) (f_signEnd_204 : Int32) (f_sign_204 : Int32) (f_value_204 : Int32) (f_word_204 : Int64) (x1_204 : Int32) (x2_204 : Bool) (x3_204 : Bool) (x4_204 : Int32) (x5_204 : Int32) (K204 : Int32 → Bool → Bool → Int32 → Int32 → Int32 → Int32 → Int32 → Int32 → Int64 → Int32 → Option (Int32 × Int32 × Int32 × Int32 × Int64 × Int32)) (f_lexAt_263 : Int32) : Option (Int32 × Int32 × Int32 × Int32 × Int64 × Int32) :=
  if x5_204 < x4_204 then
    if x2_204 = true then
      mX12_ahead_293 a_tape f_signAt_204 f_signEnd_204 f_sign_204 f_value_204 x1_204 x2_204 x3_204 x4_204 x5_204 K204 ((f_word_204 <<< ((8 : Int32).toInt64 &&& 63)) ||| ((a_tape x1_204.toNatClampNeg).toInt64)) f_lexAt_263
    else
      mX12_ahead_293 a_tape f_signAt_204 f_signEnd_204 f_sign_204 f_value_204 x1_204 x2_204 x3_204 x4_204 x5_204 K204 f_word_204 f_lexAt_263
  else
    mX12_ahead_293 a_tape f_signAt_204 f_signEnd_204 f_sign_204 f_value_204 x1_204 x2_204 x3_204 x4_204 x5_204 K204 f_word_204 f_lexAt_263
def mX12_ahead_243 (a_tape : Nat → Int32) (f_lexAt_204 : Int32) (f_signAt_204 : Int32) (f_signEnd_204 : Int32) (f_sign_204 : Int32) (f_value_204 : Int32) (f_word_204 : Int64) (x1_204 : Int32) (x2_204 : Bool) (x3_204 : Bool) (x4_204 : Int32) (x5_204 : Int32) (K204 : Int32 → Bool → Bool → Int32 → Int32 → Int32 → Int32 → Int32 → Int32 → Int64 → Int32 → Option (Int32 × Int32 × Int32 × Int32 × Int64 × Int32))  : Option (Int32 × Int32 × Int32 × Int32 × Int64 × Int32) :=
  if x5_204 = x4_204 then
    if f_lexAt_204 = (-1) then
      mX12_ahead_263 a_tape f_signAt_204 f_signEnd_204 f_sign_204 f_value_204 f_word_204 x1_204 x2_204 x3_204 x4_204 x5_204 K204 x1_204
    else
      mX12_ahead_263 a_tape f_signAt_204 f_signEnd_204 f_sign_204 f_value_204 f_word_204 x1_204 x2_204 x3_204 x4_204 x5_204 K204 f_lexAt_204
  else
    mX12_ahead_263 a_tape f_signAt_204 f_signEnd_204 f_sign_204 f_value_204 f_word_204 x1_204 x2_204 x3_204 x4_204 x5_204 K204 f_lexAt_204
def mX12_ahead_204 (f_size : Int32) (a_tape : Nat → Int32)  : Nat → Int32 → Bool → Bool → Int32 → Int32 → Int32 → Int32 → Int32 → Int32 → Int64 → Int32 → Option (Int32 × Int32 × Int32 × Int32 × Int64 × Int32)
  | 0, x1_204, x2_204, x3_204, x4_204, x5_204, f_sign_204, f_signAt_204, f_signEnd_204, f_value_204, f_word_204, f_lexAt_204 => none
  | k204 + 1, x1_204, x2_204, x3_204, x4_204, x5_204, f_sign_204, f_signAt_204, f_signEnd_204, f_value_204, f_word_204, f_lexAt_204 =>
    if x1_204 < f_size then
      if x2_204 = true then
        if xinb x1_204 1800 = true then
          if (mX12_isLetter (a_tape x1_204.toNatClampNeg)) = true then
            mX12_ahead_243 a_tape f_lexAt_204 f_signAt_204 f_signEnd_204 f_sign_204 f_value_204 f_word_204 x1_204 x2_204 x3_204 x4_204 x5_204 (fun zx1_204 zx2_204 zx3_204 zx4_204 zx5_204 zf_sign_204 zf_signAt_204 zf_signEnd_204 zf_value_204 zf_word_204 zf_lexAt_204 => mX12_ahead_204 f_size a_tape k204 zx1_204 zx2_204 zx3_204 zx4_204 zx5_204 zf_sign_204 zf_signAt_204 zf_signEnd_204 zf_value_204 zf_word_204 zf_lexAt_204)
          else
            some (f_sign_204, f_signAt_204, x1_204, f_value_204, f_word_204, f_lexAt_204)
        else none
      else
        if xinb x1_204 1800 = true then
          if (mX12_isDigit (a_tape x1_204.toNatClampNeg)) = true then
            mX12_ahead_243 a_tape f_lexAt_204 f_signAt_204 f_signEnd_204 f_sign_204 f_value_204 f_word_204 x1_204 x2_204 x3_204 x4_204 x5_204 (fun zx1_204 zx2_204 zx3_204 zx4_204 zx5_204 zf_sign_204 zf_signAt_204 zf_signEnd_204 zf_value_204 zf_word_204 zf_lexAt_204 => mX12_ahead_204 f_size a_tape k204 zx1_204 zx2_204 zx3_204 zx4_204 zx5_204 zf_sign_204 zf_signAt_204 zf_signEnd_204 zf_value_204 zf_word_204 zf_lexAt_204)
          else
            some (f_sign_204, f_signAt_204, x1_204, f_value_204, f_word_204, f_lexAt_204)
        else none
    else
      some (f_sign_204, f_signAt_204, x1_204, f_value_204, f_word_204, f_lexAt_204)
def mX12_ahead_186 (f_size : Int32) (a_tape : Nat → Int32)  (x1_186 : Int32) (x2_186 : Bool) (x3_186 : Bool) (s0_186 : Int32) (f_signAt_186 : Int32) (f_signEnd_186 : Int32) (f_lexAt_186 : Int32) : Option (Int32 × Int32 × Int32 × Int32 × Int64 × Int32) :=
  if x2_186 = true then
    mX12_ahead_204 f_size a_tape xfuel x1_186 x2_186 x3_186 (6 : Int32) (0 : Int32) s0_186 f_signAt_186 f_signEnd_186 (0 : Int32) (0 : Int64) f_lexAt_186
  else
    mX12_ahead_204 f_size a_tape xfuel x1_186 x2_186 x3_186 (4 : Int32) (0 : Int32) s0_186 f_signAt_186 f_signEnd_186 (0 : Int32) (0 : Int64) f_lexAt_186
def mX12_ahead_176 (f_size : Int32) (a_tape : Nat → Int32)  (x1_176 : Int32) (x2_176 : Bool) (x3_176 : Bool) (f_signAt_176 : Int32) (f_signEnd_176 : Int32) (f_lexAt_176 : Int32) : Option (Int32 × Int32 × Int32 × Int32 × Int64 × Int32) :=
  if x2_176 = true then
    mX12_ahead_186 f_size a_tape x1_176 x2_176 x3_176 (1 : Int32) f_signAt_176 f_signEnd_176 f_lexAt_176
  else
    mX12_ahead_186 f_size a_tape x1_176 x2_176 x3_176 (2 : Int32) f_signAt_176 f_signEnd_176 f_lexAt_176
def mX12_ahead_135 (f_size : Int32) (a_tape : Nat → Int32)  (x1_135 : Int32) (x2_135 : Bool) (x3_135 : Bool) (f_signAt_135 : Int32) (f_signEnd_135 : Int32) (f_lexAt_135 : Int32) : Option (Int32 × Int32 × Int32 × Int32 × Int64 × Int32) :=
  if x2_135 = true then
    mX12_ahead_176 f_size a_tape x1_135 x2_135 x3_135 f_signAt_135 (x1_135 + 1) f_lexAt_135
  else
    if x3_135 = true then
      mX12_ahead_176 f_size a_tape x1_135 x2_135 x3_135 f_signAt_135 (x1_135 + 1) f_lexAt_135
    else
      if xinb x1_135 1800 = true then
        some ((3 : Int32), f_signAt_135, x1_135 + 1, a_tape x1_135.toNatClampNeg, (0 : Int64), f_lexAt_135)
      else none
def mX12_ahead_130 (f_size : Int32) (a_tape : Nat → Int32)  (x1_130 : Int32) (x2_130 : Bool) (x3_130 : Bool) (f_signAt_130 : Int32) (f_signEnd_130 : Int32) : Option (Int32 × Int32 × Int32 × Int32 × Int64 × Int32) :=
  mX12_ahead_135 f_size a_tape x1_130 x2_130 x3_130 f_signAt_130 f_signEnd_130 x1_130
def mX12_ahead_98 (f_size : Int32) (a_tape : Nat → Int32)  (x1_98 : Int32) (x2_98 : Bool) (x3_98 : Bool) (f_signAt_98 : Int32) (f_signEnd_98 : Int32) : Option (Int32 × Int32 × Int32 × Int32 × Int64 × Int32) :=
  if 0 < x1_98 then
    if xinb (x1_98 - 1) 1800 = true then
      if (mX12_isLetter (a_tape (x1_98 - 1).toNatClampNeg)) = true then
        mX12_ahead_130 f_size a_tape x1_98 x2_98 x3_98 f_signAt_98 f_signEnd_98
      else
        if (mX12_isDigit (a_tape (x1_98 - 1).toNatClampNeg)) = true then
          mX12_ahead_130 f_size a_tape x1_98 x2_98 x3_98 f_signAt_98 f_signEnd_98
        else
          mX12_ahead_135 f_size a_tape x1_98 x2_98 x3_98 f_signAt_98 f_signEnd_98 ((-1) : Int32)
    else none
  else
    mX12_ahead_135 f_size a_tape x1_98 x2_98 x3_98 f_signAt_98 f_signEnd_98 ((-1) : Int32)
def mX12_ahead_41 (f_size : Int32) (f_value : Int32) (f_word : Int64) (a_tape : Nat → Int32)  (x1_41 : Int32) : Option (Int32 × Int32 × Int32 × Int32 × Int64 × Int32) :=
  if x1_41 < f_size then
    if xinb x1_41 1800 = true then
      if (mX12_isLetter (a_tape x1_41.toNatClampNeg)) = true then
        mX12_ahead_98 f_size a_tape x1_41 (mX12_isLetter (a_tape x1_41.toNatClampNeg)) (mX12_isDigit (a_tape x1_41.toNatClampNeg)) x1_41 x1_41
      else
        if (mX12_isDigit (a_tape x1_41.toNatClampNeg)) = true then
          mX12_ahead_98 f_size a_tape x1_41 (mX12_isLetter (a_tape x1_41.toNatClampNeg)) (mX12_isDigit (a_tape x1_41.toNatClampNeg)) x1_41 x1_41
        else
          mX12_ahead_135 f_size a_tape x1_41 (mX12_isLetter (a_tape x1_41.toNatClampNeg)) (mX12_isDigit (a_tape x1_41.toNatClampNeg)) x1_41 x1_41 ((-1) : Int32)
    else none
  else
    some ((0 : Int32), x1_41, x1_41, f_value, f_word, ((-1) : Int32))
def mX12_ahead_5 (f_size : Int32) (f_value : Int32) (f_word : Int64) (a_tape : Nat → Int32)  : Nat → Int32 → Option (Int32 × Int32 × Int32 × Int32 × Int64 × Int32)
  | 0, x1_5 => none
  | k5 + 1, x1_5 =>
    if x1_5 < f_size then
      if xinb x1_5 1800 = true then
        if (a_tape x1_5.toNatClampNeg) = 32 then
          mX12_ahead_5 f_size f_value f_word a_tape k5 (x1_5 + 1)
        else
          if (a_tape x1_5.toNatClampNeg) = 10 then
            mX12_ahead_5 f_size f_value f_word a_tape k5 (x1_5 + 1)
          else
            mX12_ahead_41 f_size f_value f_word a_tape x1_5
      else none
    else
      mX12_ahead_41 f_size f_value f_word a_tape x1_5
def mX12_ahead (f_size : Int32) (f_signEnd : Int32) (f_value : Int32) (f_word : Int64) (a_tape : Nat → Int32) : Option (Int32 × Int32 × Int32 × Int32 × Int64 × Int32) :=
  mX12_ahead_5 f_size f_value f_word a_tape xfuel f_signEnd
def mX12_isSign (v_c : Int32) (f_sign : Int32) (f_value : Int32) : Bool :=
  if f_sign = 3 then
    if f_value = v_c then
      true
    else
      false
  else
    false
def mX12_isWord (v_w : Int64) (f_sign : Int32) (f_word : Int64) : Bool :=
  if f_sign = 1 then
    if f_word = v_w then
      true
    else
      false
  else
    false
def mX12_must_21 (f_size : Int32) (f_sign : Int32) (f_signAt : Int32) (f_signEnd : Int32) (f_value : Int32) (f_word : Int64) (f_lexAt : Int32) (a_tape : Nat → Int32)  (f_faultKind_21 : Int32) (f_faultPlace_21 : Int32) : Option (Int32 × Int32 × Int32 × Int32 × Int64 × Int32 × Int32 × Int32) :=
  if f_faultKind_21 = 0 then
    (mX12_ahead f_size f_signEnd f_value f_word a_tape).bind (xu fun q5_1 => xu fun q5_2 => xu fun q5_3 => xu fun q5_4 => xu fun q5_5 => fun q5_6 =>
      some (q5_1, q5_2, q5_3, q5_4, q5_5, f_faultKind_21, f_faultPlace_21, q5_6))
  else
    some (f_sign, f_signAt, f_signEnd, f_value, f_word, f_faultKind_21, f_faultPlace_21, f_lexAt)
def mX12_must (v_c : Int32) (f_size : Int32) (f_sign : Int32) (f_signAt : Int32) (f_signEnd : Int32) (f_value : Int32) (f_word : Int64) (f_faultKind : Int32) (f_faultPlace : Int32) (f_lexAt : Int32) (a_tape : Nat → Int32) : Option (Int32 × Int32 × Int32 × Int32 × Int64 × Int32 × Int32 × Int32) :=
  xlet (mX12_lex f_faultKind f_faultPlace f_lexAt) (xu fun q1_1 => fun q1_2 =>
    if (mX12_isSign v_c f_sign f_value) = true then
      mX12_must_21 f_size f_sign f_signAt f_signEnd f_value f_word f_lexAt a_tape q1_1 q1_2
    else
      xlet (mX12_blame (1 : Int32) f_signAt q1_1 q1_2) (xu fun q3_1 => fun q3_2 =>
        mX12_must_21 f_size f_sign f_signAt f_signEnd f_value f_word f_lexAt a_tape q3_1 q3_2))
def mX12_isOwn (v_w : Int64) : Bool :=
  if v_w = (504363578483 : Int64) then
    true
  else
    if v_w = (499967946343 : Int64) then
      true
    else
      if v_w = (1936292453 : Int64) then
        true
      else
        if v_w = (1852143732 : Int64) then
          true
        else
          if v_w = (1818848875 : Int64) then
            true
          else
            if v_w = (29807 : Int64) then
              true
            else
              if v_w = (1919905652 : Int64) then
                true
              else
                if v_w = (426954289774 : Int64) then
                  true
                else
                  if v_w = (1886351475 : Int64) then
                    true
                  else
                    if v_w = (440005915496 : Int64) then
                      true
                    else
                      if v_w = (427071599731 : Int64) then
                        true
                      else
                        if v_w = (1937007984 : Int64) then
                          true
                        else
                          if v_w = (1919247987 : Int64) then
                            true
                          else
                            if v_w = (6383461 : Int64) then
                              true
                            else
                              if v_w = (128034609393267 : Int64) then
                                true
                              else
                                if v_w = (1667330675 : Int64) then
                                  true
                                else
                                  if v_w = (1819238756 : Int64) then
                                    true
                                  else
                                    if v_w = (26982 : Int64) then
                                      true
                                    else
                                      if v_w = (28530 : Int64) then
                                        true
                                      else
                                        if v_w = (6385252 : Int64) then
                                          true
                                        else
                                          if v_w = (7237492 : Int64) then
                                            true
                                          else
                                            if v_w = (6384748 : Int64) then
                                              true
                                            else
                                              if v_w = (7170414 : Int64) then
                                                true
                                              else
                                                if v_w = (7168376 : Int64) then
                                                  true
                                                else
                                                  false
def mX12_thingNamed_2 (v_w : Int64) (f_in : Int32) (a_told : Nat → Int32) (a_thingName : Nat → Int64)  : Nat → Int32 → Option (Int32)
  | 0, x3_2 => none
  | k2 + 1, x3_2 =>
    if xinb f_in 2 = true then
      if x3_2 < (a_told f_in.toNatClampNeg) then
        if xinb ((24 * f_in) + x3_2) 48 = true then
          if (a_thingName ((24 * f_in) + x3_2).toNatClampNeg) = v_w then
            some x3_2
          else
            mX12_thingNamed_2 v_w f_in a_told a_thingName k2 (x3_2 + 1)
        else none
      else
        some ((-1) : Int32)
    else none
def mX12_thingNamed (v_w : Int64) (f_in : Int32) (a_told : Nat → Int32) (a_thingName : Nat → Int64) : Option (Int32) :=
  mX12_thingNamed_2 v_w f_in a_told a_thingName xfuel (0 : Int32)
def mX12_number_58 (f_size : Int32) (f_sign : Int32) (f_signAt : Int32) (f_signEnd : Int32) (f_value : Int32) (f_word : Int64) (f_lexAt : Int32) (a_tape : Nat → Int32)  (f_faultKind_58 : Int32) (f_faultPlace_58 : Int32) : Option (Int32 × Int32 × Int32 × Int32 × Int32 × Int64 × Int32 × Int32 × Int32) :=
  if f_faultKind_58 = 0 then
    (mX12_ahead f_size f_signEnd f_value f_word a_tape).bind (xu fun q9_1 => xu fun q9_2 => xu fun q9_3 => xu fun q9_4 => xu fun q9_5 => fun q9_6 =>
      some (f_value, q9_1, q9_2, q9_3, q9_4, q9_5, f_faultKind_58, f_faultPlace_58, q9_6))
  else
    some (f_value, f_sign, f_signAt, f_signEnd, f_value, f_word, f_faultKind_58, f_faultPlace_58, f_lexAt)
def mX12_number_30 (v_low : Int32) (v_high : Int32) (f_size : Int32) (f_sign : Int32) (f_signAt : Int32) (f_signEnd : Int32) (f_value : Int32) (f_word : Int64) (f_lexAt : Int32) (a_tape : Nat → Int32)  (f_faultKind_30 : Int32) (f_faultPlace_30 : Int32) : Option (Int32 × Int32 × Int32 × Int32 × Int32 × Int64 × Int32 × Int32 × Int32) :=
  if f_faultKind_30 = 0 then
    if (mX12_is f_value v_low v_high) = true then
      mX12_number_58 f_size f_sign f_signAt f_signEnd f_value f_word f_lexAt a_tape f_faultKind_30 f_faultPlace_30
    else
      xlet (mX12_blame (4 : Int32) f_signAt f_faultKind_30 f_faultPlace_30) (xu fun q7_1 => fun q7_2 =>
        mX12_number_58 f_size f_sign f_signAt f_signEnd f_value f_word f_lexAt a_tape q7_1 q7_2)
  else
    mX12_number_58 f_size f_sign f_signAt f_signEnd f_value f_word f_lexAt a_tape f_faultKind_30 f_faultPlace_30
def mX12_number (v_low : Int32) (v_high : Int32) (f_size : Int32) (f_sign : Int32) (f_signAt : Int32) (f_signEnd : Int32) (f_value : Int32) (f_word : Int64) (f_faultKind : Int32) (f_faultPlace : Int32) (f_lexAt : Int32) (a_tape : Nat → Int32) : Option (Int32 × Int32 × Int32 × Int32 × Int32 × Int64 × Int32 × Int32 × Int32) :=
  xlet (mX12_lex f_faultKind f_faultPlace f_lexAt) (xu fun q1_1 => fun q1_2 =>
    if 0 < q1_1 then
      some ((0 : Int32), f_sign, f_signAt, f_signEnd, f_value, f_word, q1_1, q1_2, f_lexAt)
    else
      if f_sign = 2 then
        mX12_number_30 v_low v_high f_size f_sign f_signAt f_signEnd f_value f_word f_lexAt a_tape q1_1 q1_2
      else
        xlet (mX12_blame (1 : Int32) f_signAt q1_1 q1_2) (xu fun q4_1 => fun q4_2 =>
          mX12_number_30 v_low v_high f_size f_sign f_signAt f_signEnd f_value f_word f_lexAt a_tape q4_1 q4_2))
def mX12_add (v_t : Int32) (v_units : Int32) (f_codes : Int32) (f_in : Int32) (a_codeSort : Nat → Int32) (a_codeValue : Nat → Int32) : Option (Int32 × (Nat → Int32) × (Nat → Int32)) :=
  if xinb ((1600 * f_in) + f_codes) 3200 = true then
    some (f_codes + 1, upd a_codeSort ((1600 * f_in) + f_codes).toNatClampNeg v_t, upd a_codeValue ((1600 * f_in) + f_codes).toNatClampNeg v_units)
  else none
def mX12_rank (v_op : Int32) : Int32 :=
  if v_op = 42 then
    (1 : Int32)
  else
    if v_op = 41 then
      (2 : Int32)
    else
      if v_op = 43 then
        (3 : Int32)
      else
        if v_op = 38 then
          (4 : Int32)
        else
          if v_op = 39 then
            (4 : Int32)
          else
            if v_op = 40 then
              (4 : Int32)
            else
              if v_op = 31 then
                (5 : Int32)
              else
                if v_op = 32 then
                  (5 : Int32)
                else
                  (6 : Int32)
def mX12_joins_0 (v_least : Int32) (f_in : Int32) (f_deep : Int32) (a_base : Nat → Int32) (a_ops : Nat → Int32)  : Nat → Int32 → Int32 → Int32 → (Nat → Int32) → (Nat → Int32) → Option (Int32 × Int32 × Int32 × (Nat → Int32) × (Nat → Int32))
  | 0, f_codes_0, f_open_0, f_opMany_0, a_codeSort_0, a_codeValue_0 => none
  | k0 + 1, f_codes_0, f_open_0, f_opMany_0, a_codeSort_0, a_codeValue_0 =>
    if xinb (f_deep - 1) 20 = true then
      if (a_base (f_deep - 1).toNatClampNeg) < f_opMany_0 then
        if xinb (f_opMany_0 - 1) 500 = true then
          if (mX12_rank (a_ops (f_opMany_0 - 1).toNatClampNeg)) < v_least then
            some (f_codes_0, f_open_0, f_opMany_0, a_codeSort_0, a_codeValue_0)
          else
            (mX12_add (a_ops (f_opMany_0 - 1).toNatClampNeg) (0 : Int32) f_codes_0 f_in a_codeSort_0 a_codeValue_0).bind (xu fun q5_1 => xu fun q5_2 => fun q5_3 =>
              if (a_ops (f_opMany_0 - 1).toNatClampNeg) = 43 then
                mX12_joins_0 v_least f_in f_deep a_base a_ops k0 q5_1 (f_open_0 - 1) (f_opMany_0 - 1) q5_2 q5_3
              else
                mX12_joins_0 v_least f_in f_deep a_base a_ops k0 q5_1 f_open_0 (f_opMany_0 - 1) q5_2 q5_3)
        else none
      else
        some (f_codes_0, f_open_0, f_opMany_0, a_codeSort_0, a_codeValue_0)
    else none
def mX12_joins (v_least : Int32) (f_codes : Int32) (f_in : Int32) (f_deep : Int32) (f_open : Int32) (f_opMany : Int32) (a_codeSort : Nat → Int32) (a_codeValue : Nat → Int32) (a_base : Nat → Int32) (a_ops : Nat → Int32) : Option (Int32 × Int32 × Int32 × (Nat → Int32) × (Nat → Int32)) :=
  mX12_joins_0 v_least f_in f_deep a_base a_ops xfuel f_codes f_open f_opMany a_codeSort a_codeValue
def mX12_holdsBack (v_op : Int32) (f_opMany : Int32) (a_ops : Nat → Int32) : Option (Int32 × (Nat → Int32)) :=
  if xinb f_opMany 500 = true then
    some (f_opMany + 1, upd a_ops f_opMany.toNatClampNeg v_op)
  else none
def mX12_pushes (v_kind : Int32) (f_deep : Int32) (f_opMany : Int32) (a_frame : Nat → Int32) (a_phase : Nat → Int32) (a_begins : Nat → Int32) (a_base : Nat → Int32) : Option (Int32 × (Nat → Int32) × (Nat → Int32) × (Nat → Int32) × (Nat → Int32)) :=
  if xinb f_deep 20 = true then
    some (f_deep + 1, upd a_frame f_deep.toNatClampNeg v_kind, upd a_phase f_deep.toNatClampNeg 0, upd a_begins f_deep.toNatClampNeg 1, upd a_base f_deep.toNatClampNeg f_opMany)
  else none
def mX12_opens_18 (v_kind : Int32) (f_size : Int32) (f_sign : Int32) (f_signAt : Int32) (f_signEnd : Int32) (f_value : Int32) (f_word : Int64) (f_lexAt : Int32) (f_deep : Int32) (f_open : Int32) (f_opMany : Int32) (a_tape : Nat → Int32) (a_frame : Nat → Int32) (a_phase : Nat → Int32) (a_begins : Nat → Int32) (a_base : Nat → Int32)  (f_faultKind_18 : Int32) (f_faultPlace_18 : Int32) : Option (Int32 × Int32 × Int32 × Int32 × Int64 × Int32 × Int32 × Int32 × Int32 × Int32 × (Nat → Int32) × (Nat → Int32) × (Nat → Int32) × (Nat → Int32)) :=
  if 0 < f_faultKind_18 then
    some (f_sign, f_signAt, f_signEnd, f_value, f_word, f_faultKind_18, f_faultPlace_18, f_lexAt, f_deep, f_open, a_frame, a_phase, a_begins, a_base)
  else
    (mX12_ahead f_size f_signEnd f_value f_word a_tape).bind (xu fun q4_1 => xu fun q4_2 => xu fun q4_3 => xu fun q4_4 => xu fun q4_5 => fun q4_6 =>
      (mX12_pushes v_kind f_deep f_opMany a_frame a_phase a_begins a_base).bind (xu fun q5_1 => xu fun q5_2 => xu fun q5_3 => xu fun q5_4 => fun q5_5 =>
        some (q4_1, q4_2, q4_3, q4_4, q4_5, f_faultKind_18, f_faultPlace_18, q4_6, q5_1, f_open + 1, q5_2, q5_3, q5_4, q5_5)))
def mX12_opens (v_kind : Int32) (f_size : Int32) (f_sign : Int32) (f_signAt : Int32) (f_signEnd : Int32) (f_value : Int32) (f_word : Int64) (f_faultKind : Int32) (f_faultPlace : Int32) (f_lexAt : Int32) (f_deep : Int32) (f_open : Int32) (f_opMany : Int32) (a_tape : Nat → Int32) (a_frame : Nat → Int32) (a_phase : Nat → Int32) (a_begins : Nat → Int32) (a_base : Nat → Int32) : Option (Int32 × Int32 × Int32 × Int32 × Int64 × Int32 × Int32 × Int32 × Int32 × Int32 × (Nat → Int32) × (Nat → Int32) × (Nat → Int32) × (Nat → Int32)) :=
  if f_open = 7 then
    xlet (mX12_blame (5 : Int32) f_signAt f_faultKind f_faultPlace) (xu fun q2_1 => fun q2_2 =>
      mX12_opens_18 v_kind f_size f_sign f_signAt f_signEnd f_value f_word f_lexAt f_deep f_open f_opMany a_tape a_frame a_phase a_begins a_base q2_1 q2_2)
  else
    mX12_opens_18 v_kind f_size f_sign f_signAt f_signEnd f_value f_word f_lexAt f_deep f_open f_opMany a_tape a_frame a_phase a_begins a_base f_faultKind f_faultPlace
def mX12_isTest (v_kind : Int32) : Bool :=
  if v_kind = 1 then
    true
  else
    if v_kind = 5 then
      true
    else
      if v_kind = 6 then
        true
      else
        false
