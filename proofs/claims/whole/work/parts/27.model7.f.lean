def mX12_later_27 (v_n : Int32) (v_what : Int32) (f_bank : Int32) (a_unitsTold : Nat → Int32) (a_sumFrom : Nat → Int32) (a_sumBehind : Nat → Int32) (a_codeSort : Nat → Int32) (a_codeValue : Nat → Int32)  : Nat → Int32 → Int32 → Int32 → Int32 → Int32 → Int32 → Int32 → Bool → (Nat → Int32) → (Nat → Int32) → (Nat → Int32) → (Nat → Int32) → (Nat → Int32) → (Nat → Int32) → (Nat → Int32) → (Nat → Int32) → (Nat → Int32) → (Nat → Int32) → (Nat → Int32) → (Nat → Int64) → (Nat → Int32) → (Nat → Int32) → (Nat → Int32) → (Nat → Int32) → (Nat → Int32) → Option (Int32 × Int32 × Int32 × Int32 × Int32 × Bool × (Nat → Int32) × (Nat → Int32) × (Nat → Int32) × (Nat → Int32) × (Nat → Int32) × (Nat → Int32) × (Nat → Int32) × (Nat → Int32) × (Nat → Int32) × (Nat → Int32) × (Nat → Int32) × (Nat → Int64) × (Nat → Int32) × (Nat → Int32) × (Nat → Int32) × (Nat → Int32) × (Nat → Int32))
  | 0, x3_27, x4_27, x5_27, f_ruleNow_27, f_fell_27, f_went_27, f_cost_27, f_isFutile_27, a_stepOf_27, a_sizeOf_27, a_trainOf_27, a_carOf_27, a_placeOf_27, a_ageOf_27, a_markOf_27, a_linkTo_27, a_rootTo_27, a_keptMany_27, a_keptRow_27, a_stack_27, a_asked_27, a_newPlace_27, a_isMoved_27, a_isStaying_27, a_stayTrain_27 => none
  | k27 + 1, x3_27, x4_27, x5_27, f_ruleNow_27, f_fell_27, f_went_27, f_cost_27, f_isFutile_27, a_stepOf_27, a_sizeOf_27, a_trainOf_27, a_carOf_27, a_placeOf_27, a_ageOf_27, a_markOf_27, a_linkTo_27, a_rootTo_27, a_keptMany_27, a_keptRow_27, a_stack_27, a_asked_27, a_newPlace_27, a_isMoved_27, a_isStaying_27, a_stayTrain_27 =>
    if x5_27 < v_n then
      (mX12_ticks (1 : Int32) f_bank f_ruleNow_27 a_unitsTold a_sumFrom a_sumBehind a_codeSort a_codeValue a_stepOf_27 a_sizeOf_27 a_trainOf_27 a_carOf_27 a_placeOf_27 a_ageOf_27 a_markOf_27 a_linkTo_27 a_rootTo_27 a_keptMany_27 a_keptRow_27 a_stack_27 a_asked_27 a_newPlace_27 a_isMoved_27 a_isStaying_27 a_stayTrain_27).bind (xu fun q4_1 => xu fun q4_2 => xu fun q4_3 => xu fun q4_4 => xu fun q4_5 => xu fun q4_6 => xu fun q4_7 => xu fun q4_8 => xu fun q4_9 => xu fun q4_10 => xu fun q4_11 => xu fun q4_12 => xu fun q4_13 => xu fun q4_14 => xu fun q4_15 => xu fun q4_16 => xu fun q4_17 => xu fun q4_18 => xu fun q4_19 => xu fun q4_20 => fun q4_21 =>
        if q4_5 = true then
          mX12_later_27 v_n v_what f_bank a_unitsTold a_sumFrom a_sumBehind a_codeSort a_codeValue k27 (x3_27 + q4_4) (x4_27 + 1) (x5_27 + 1) q4_1 q4_2 q4_3 q4_4 q4_5 q4_6 q4_7 q4_8 q4_9 q4_10 q4_11 q4_12 q4_13 a_rootTo_27 q4_14 q4_15 q4_16 q4_17 q4_18 q4_19 q4_20 q4_21
        else
          mX12_later_27 v_n v_what f_bank a_unitsTold a_sumFrom a_sumBehind a_codeSort a_codeValue k27 (x3_27 + q4_4) (x4_27 + 0) (x5_27 + 1) q4_1 q4_2 q4_3 q4_4 q4_5 q4_6 q4_7 q4_8 q4_9 q4_10 q4_11 q4_12 q4_13 a_rootTo_27 q4_14 q4_15 q4_16 q4_17 q4_18 q4_19 q4_20 q4_21)
    else
      if v_what = 0 then
        (mX12_trainsOf (1 : Int32) a_sizeOf_27 a_trainOf_27).bind (fun q7 =>
          some (q7, f_ruleNow_27, f_fell_27, f_went_27, f_cost_27, f_isFutile_27, a_stepOf_27, a_sizeOf_27, a_trainOf_27, a_carOf_27, a_placeOf_27, a_ageOf_27, a_markOf_27, a_linkTo_27, a_rootTo_27, a_keptMany_27, a_keptRow_27, a_stack_27, a_asked_27, a_newPlace_27, a_isMoved_27, a_isStaying_27, a_stayTrain_27))
      else if v_what = 1 then
        (mX12_allCars (1 : Int32) a_sizeOf_27 a_trainOf_27 a_carOf_27).bind (fun q10 =>
          some (q10, f_ruleNow_27, f_fell_27, f_went_27, f_cost_27, f_isFutile_27, a_stepOf_27, a_sizeOf_27, a_trainOf_27, a_carOf_27, a_placeOf_27, a_ageOf_27, a_markOf_27, a_linkTo_27, a_rootTo_27, a_keptMany_27, a_keptRow_27, a_stack_27, a_asked_27, a_newPlace_27, a_isMoved_27, a_isStaying_27, a_stayTrain_27))
      else if v_what = 2 then
        (mX12_thingsOf (1 : Int32) a_sizeOf_27).bind (fun q13 =>
          some (q13, f_ruleNow_27, f_fell_27, f_went_27, f_cost_27, f_isFutile_27, a_stepOf_27, a_sizeOf_27, a_trainOf_27, a_carOf_27, a_placeOf_27, a_ageOf_27, a_markOf_27, a_linkTo_27, a_rootTo_27, a_keptMany_27, a_keptRow_27, a_stack_27, a_asked_27, a_newPlace_27, a_isMoved_27, a_isStaying_27, a_stayTrain_27))
      else if v_what = 3 then
        some (x3_27, f_ruleNow_27, f_fell_27, f_went_27, f_cost_27, f_isFutile_27, a_stepOf_27, a_sizeOf_27, a_trainOf_27, a_carOf_27, a_placeOf_27, a_ageOf_27, a_markOf_27, a_linkTo_27, a_rootTo_27, a_keptMany_27, a_keptRow_27, a_stack_27, a_asked_27, a_newPlace_27, a_isMoved_27, a_isStaying_27, a_stayTrain_27)
      else if v_what = 4 then
        some (x4_27, f_ruleNow_27, f_fell_27, f_went_27, f_cost_27, f_isFutile_27, a_stepOf_27, a_sizeOf_27, a_trainOf_27, a_carOf_27, a_placeOf_27, a_ageOf_27, a_markOf_27, a_linkTo_27, a_rootTo_27, a_keptMany_27, a_keptRow_27, a_stack_27, a_asked_27, a_newPlace_27, a_isMoved_27, a_isStaying_27, a_stayTrain_27)
      else 
        some (((-1) : Int32), f_ruleNow_27, f_fell_27, f_went_27, f_cost_27, f_isFutile_27, a_stepOf_27, a_sizeOf_27, a_trainOf_27, a_carOf_27, a_placeOf_27, a_ageOf_27, a_markOf_27, a_linkTo_27, a_rootTo_27, a_keptMany_27, a_keptRow_27, a_stack_27, a_asked_27, a_newPlace_27, a_isMoved_27, a_isStaying_27, a_stayTrain_27)
def mX12_later (v_n : Int32) (v_what : Int32) (f_bank : Int32) (f_isHeap : Bool) (f_ruleNow : Int32) (f_fell : Int32) (f_went : Int32) (f_cost : Int32) (f_isFutile : Bool) (a_unitsTold : Nat → Int32) (a_sumFrom : Nat → Int32) (a_sumBehind : Nat → Int32) (a_codeSort : Nat → Int32) (a_codeValue : Nat → Int32) (a_stepOf : Nat → Int32) (a_sizeOf : Nat → Int32) (a_trainOf : Nat → Int32) (a_carOf : Nat → Int32) (a_placeOf : Nat → Int32) (a_ageOf : Nat → Int32) (a_markOf : Nat → Int32) (a_linkTo : Nat → Int32) (a_rootTo : Nat → Int32) (a_keptMany : Nat → Int32) (a_keptRow : Nat → Int32) (a_stack : Nat → Int64) (a_asked : Nat → Int32) (a_newPlace : Nat → Int32) (a_isMoved : Nat → Int32) (a_isStaying : Nat → Int32) (a_stayTrain : Nat → Int32) : Option (Int32 × Int32 × Int32 × Int32 × Int32 × Bool × (Nat → Int32) × (Nat → Int32) × (Nat → Int32) × (Nat → Int32) × (Nat → Int32) × (Nat → Int32) × (Nat → Int32) × (Nat → Int32) × (Nat → Int32) × (Nat → Int32) × (Nat → Int32) × (Nat → Int64) × (Nat → Int32) × (Nat → Int32) × (Nat → Int32) × (Nat → Int32) × (Nat → Int32)) :=
  if (mX12_isAhead v_n (0 : Int32) (60 : Int32) f_isHeap a_stepOf) = true then
    (mX12_copies (1 : Int32) (0 : Int32) a_stepOf a_sizeOf a_trainOf a_carOf a_placeOf a_ageOf a_markOf a_linkTo a_rootTo a_keptMany a_keptRow).bind (xu fun q2_1 => xu fun q2_2 => xu fun q2_3 => xu fun q2_4 => xu fun q2_5 => xu fun q2_6 => xu fun q2_7 => xu fun q2_8 => xu fun q2_9 => xu fun q2_10 => fun q2_11 =>
      mX12_later_27 v_n v_what f_bank a_unitsTold a_sumFrom a_sumBehind a_codeSort a_codeValue xfuel (0 : Int32) (0 : Int32) (0 : Int32) f_ruleNow f_fell f_went f_cost f_isFutile q2_1 q2_2 q2_3 q2_4 q2_5 q2_6 q2_7 q2_8 q2_9 q2_10 q2_11 a_stack a_asked a_newPlace a_isMoved a_isStaying a_stayTrain)
  else
    some (((-1) : Int32), f_ruleNow, f_fell, f_went, f_cost, f_isFutile, a_stepOf, a_sizeOf, a_trainOf, a_carOf, a_placeOf, a_ageOf, a_markOf, a_linkTo, a_rootTo, a_keptMany, a_keptRow, a_stack, a_asked, a_newPlace, a_isMoved, a_isStaying, a_stayTrain)
def mX12_retains (v_thing : Int32) (a_sizeOf : Nat → Int32) (a_linkTo : Nat → Int32) (a_rootTo : Nat → Int32) (a_farOf : Nat → Int32) (a_queue : Nat → Int32) : Option (Int32 × (Nat → Int32) × (Nat → Int32)) :=
  (mX12_isThing v_thing a_sizeOf).bind (fun q1 =>
    if q1 = true then
      (mX12_livesNow a_linkTo a_rootTo a_farOf a_queue).bind (xu fun q3_1 => xu fun q3_2 => fun q3_3 =>
        (mX12_lives (0 : Int32) v_thing ((-1) : Int32) ((-1) : Int32) a_linkTo a_rootTo q3_2 q3_3).bind (xu fun q4_1 => xu fun q4_2 => fun q4_3 =>
          some (q3_1 - q4_1, q4_2, q4_3)))
    else
      some (((-1) : Int32), a_farOf, a_queue))
def mX12_holder_121 (v_what : Int32) (a_linkTo : Nat → Int32) (a_rootTo : Nat → Int32)  : Nat → Nat → Int32 → Int32 → Int32 → (Nat → Int32) → (Nat → Int32) → (Nat → Int32) → Option (Int32 × (Nat → Int32) × (Nat → Int32) × (Nat → Int32))
  | 0, i121, x2_121, x3_121, x4_121, a_farOf_121, a_queue_121, a_isRubbish_121 => if x3_121 = (-1) then
      some (((-1) : Int32), a_farOf_121, a_queue_121, a_isRubbish_121)
    else
      if v_what = 2 then
        some (x4_121, a_farOf_121, a_queue_121, a_isRubbish_121)
      else
        if x3_121 < 8 then
          if v_what = 0 then
            some (((-1) : Int32), a_farOf_121, a_queue_121, a_isRubbish_121)
          else
            some (x3_121, a_farOf_121, a_queue_121, a_isRubbish_121)
        else
          if v_what = 0 then
            some ((x3_121 - 8) / 4, a_farOf_121, a_queue_121, a_isRubbish_121)
          else
            some ((x3_121 - 8) - (x3_121 - 8) / 4 * 4, a_farOf_121, a_queue_121, a_isRubbish_121)
  | k121 + 1, i121, x2_121, x3_121, x4_121, a_farOf_121, a_queue_121, a_isRubbish_121 =>
    if (a_linkTo (nI i121).toNatClampNeg) = (-1) then
      mX12_holder_121 v_what a_linkTo a_rootTo k121 (i121 + 1) x2_121 x3_121 x4_121 a_farOf_121 a_queue_121 a_isRubbish_121
    else
      if xinb ((nI i121) / 4) 40 = true then
        if (a_isRubbish_121 ((nI i121) / 4).toNatClampNeg) = 1 then
          mX12_holder_121 v_what a_linkTo a_rootTo k121 (i121 + 1) x2_121 x3_121 x4_121 a_farOf_121 a_queue_121 a_isRubbish_121
        else
          (mX12_lives (0 : Int32) ((-1) : Int32) ((-1) : Int32) (nI i121) a_linkTo a_rootTo a_farOf_121 a_queue_121).bind (xu fun q10_1 => xu fun q10_2 => fun q10_3 =>
            if x4_121 < (x2_121 - q10_1) then
              mX12_holder_121 v_what a_linkTo a_rootTo k121 (i121 + 1) x2_121 (8 + (nI i121)) (x2_121 - q10_1) q10_2 q10_3 a_isRubbish_121
            else
              mX12_holder_121 v_what a_linkTo a_rootTo k121 (i121 + 1) x2_121 x3_121 x4_121 q10_2 q10_3 a_isRubbish_121)
      else none
def mX12_holder_61 (v_what : Int32) (a_linkTo : Nat → Int32) (a_rootTo : Nat → Int32)  : Nat → Nat → Int32 → Int32 → Int32 → (Nat → Int32) → (Nat → Int32) → (Nat → Int32) → Option (Int32 × (Nat → Int32) × (Nat → Int32) × (Nat → Int32))
  | 0, i61, x2_61, x3_61, x4_61, a_farOf_61, a_queue_61, a_isRubbish_61 => mX12_holder_121 v_what a_linkTo a_rootTo 160 0 x2_61 x3_61 x4_61 a_farOf_61 a_queue_61 a_isRubbish_61
  | k61 + 1, i61, x2_61, x3_61, x4_61, a_farOf_61, a_queue_61, a_isRubbish_61 =>
    if (a_rootTo (nI i61).toNatClampNeg) = (-1) then
      mX12_holder_61 v_what a_linkTo a_rootTo k61 (i61 + 1) x2_61 x3_61 x4_61 a_farOf_61 a_queue_61 a_isRubbish_61
    else
      (mX12_lives (0 : Int32) ((-1) : Int32) (nI i61) ((-1) : Int32) a_linkTo a_rootTo a_farOf_61 a_queue_61).bind (xu fun q5_1 => xu fun q5_2 => fun q5_3 =>
        if x4_61 < (x2_61 - q5_1) then
          mX12_holder_61 v_what a_linkTo a_rootTo k61 (i61 + 1) x2_61 (nI i61) (x2_61 - q5_1) q5_2 q5_3 a_isRubbish_61
        else
          mX12_holder_61 v_what a_linkTo a_rootTo k61 (i61 + 1) x2_61 x3_61 x4_61 q5_2 q5_3 a_isRubbish_61)
def mX12_holder_18 (v_what : Int32) (a_linkTo : Nat → Int32) (a_rootTo : Nat → Int32)  : Nat → Nat → Int32 → (Nat → Int32) → (Nat → Int32) → (Nat → Int32) → Option (Int32 × (Nat → Int32) × (Nat → Int32) × (Nat → Int32))
  | 0, i18, x2_18, a_farOf_18, a_queue_18, a_isRubbish_18 => mX12_holder_61 v_what a_linkTo a_rootTo 8 0 x2_18 ((-1) : Int32) ((-1) : Int32) a_farOf_18 a_queue_18 a_isRubbish_18
  | k18 + 1, i18, x2_18, a_farOf_18, a_queue_18, a_isRubbish_18 =>
    if (a_farOf_18 (nI i18).toNatClampNeg) = 100000000 then
      mX12_holder_18 v_what a_linkTo a_rootTo k18 (i18 + 1) x2_18 a_farOf_18 a_queue_18 (upd a_isRubbish_18 (nI i18).toNatClampNeg 1)
    else
      mX12_holder_18 v_what a_linkTo a_rootTo k18 (i18 + 1) x2_18 a_farOf_18 a_queue_18 (upd a_isRubbish_18 (nI i18).toNatClampNeg 0)
def mX12_holder (v_what : Int32) (a_linkTo : Nat → Int32) (a_rootTo : Nat → Int32) (a_farOf : Nat → Int32) (a_queue : Nat → Int32) (a_isRubbish : Nat → Int32) : Option (Int32 × (Nat → Int32) × (Nat → Int32) × (Nat → Int32)) :=
  if (mX12_is v_what (0 : Int32) (2 : Int32)) = true then
    (mX12_livesNow a_linkTo a_rootTo a_farOf a_queue).bind (xu fun q2_1 => xu fun q2_2 => fun q2_3 =>
      mX12_holder_18 v_what a_linkTo a_rootTo 40 0 q2_1 q2_2 q2_3 a_isRubbish)
  else
    some (((-1) : Int32), a_farOf, a_queue, a_isRubbish)
def mX12_far (v_thing : Int32) (a_sizeOf : Nat → Int32) (a_linkTo : Nat → Int32) (a_rootTo : Nat → Int32) (a_farOf : Nat → Int32) (a_queue : Nat → Int32) : Option (Int32 × (Nat → Int32) × (Nat → Int32)) :=
  (mX12_isThing v_thing a_sizeOf).bind (fun q1 =>
    if q1 = true then
      (mX12_livesNow a_linkTo a_rootTo a_farOf a_queue).bind (xu fun q3_1 => xu fun q3_2 => fun q3_3 =>
        if xinb v_thing 40 = true then
          if (q3_2 v_thing.toNatClampNeg) = 100000000 then
            some (((-1) : Int32), q3_2, q3_3)
          else
            some (q3_2 v_thing.toNatClampNeg, q3_2, q3_3)
        else none)
    else
      some (((-1) : Int32), a_farOf, a_queue))
def mX12_ring_100 (a_linkTo : Nat → Int32) (a_farOf_63 : Nat → Int32) (a_queue_63 : Nat → Int32) (i63 : Nat) (x2_63 : Int32) (x3_63 : Int32) (x4_54 : Int32) (K63 : Int32 → Int32 → (Nat → Int32) → (Nat → Int32) → Option (Int32 × (Nat → Int32) × (Nat → Int32))) (s0_100 : Int32) : Option (Int32 × (Nat → Int32) × (Nat → Int32)) :=
  if (a_linkTo ((4 * (a_queue_63 x4_54.toNatClampNeg)) + (nI i63)).toNatClampNeg) = (-1) then
    K63 x2_63 (x3_63 ||| s0_100) a_farOf_63 a_queue_63
  else
    if xinb (a_linkTo ((4 * (a_queue_63 x4_54.toNatClampNeg)) + (nI i63)).toNatClampNeg) 40 = true then
      if (a_farOf_63 (a_linkTo ((4 * (a_queue_63 x4_54.toNatClampNeg)) + (nI i63)).toNatClampNeg).toNatClampNeg) = 0 then
        K63 x2_63 (x3_63 ||| s0_100) a_farOf_63 a_queue_63
      else
        if xinb x2_63 40 = true then
          K63 (x2_63 + 1) (x3_63 ||| s0_100) (upd a_farOf_63 (a_linkTo ((4 * (a_queue_63 x4_54.toNatClampNeg)) + (nI i63)).toNatClampNeg).toNatClampNeg 0) (upd a_queue_63 x2_63.toNatClampNeg (a_linkTo ((4 * (a_queue_63 x4_54.toNatClampNeg)) + (nI i63)).toNatClampNeg))
        else none
    else none
def mX12_ring_63 (v_thing : Int32) (a_linkTo : Nat → Int32) (x4_54 : Int32) (K54 : Int32 → Int32 → Int32 → (Nat → Int32) → (Nat → Int32) → Option (Int32 × (Nat → Int32) × (Nat → Int32))) : Nat → Nat → Int32 → Int32 → (Nat → Int32) → (Nat → Int32) → Option (Int32 × (Nat → Int32) × (Nat → Int32))
  | 0, i63, x2_63, x3_63, a_farOf_63, a_queue_63 => K54 x2_63 x3_63 (x4_54 + 1) a_farOf_63 a_queue_63
  | k63 + 1, i63, x2_63, x3_63, a_farOf_63, a_queue_63 =>
    if xinb x4_54 40 = true then
      if xinb ((4 * (a_queue_63 x4_54.toNatClampNeg)) + (nI i63)) 3520 = true then
        if (a_linkTo ((4 * (a_queue_63 x4_54.toNatClampNeg)) + (nI i63)).toNatClampNeg) = v_thing then
          mX12_ring_100 a_linkTo a_farOf_63 a_queue_63 i63 x2_63 x3_63 x4_54 (fun zx2_63 zx3_63 za_farOf_63 za_queue_63 => mX12_ring_63 v_thing a_linkTo x4_54 K54 k63 (i63 + 1) zx2_63 zx3_63 za_farOf_63 za_queue_63) (1 : Int32)
        else
          mX12_ring_100 a_linkTo a_farOf_63 a_queue_63 i63 x2_63 x3_63 x4_54 (fun zx2_63 zx3_63 za_farOf_63 za_queue_63 => mX12_ring_63 v_thing a_linkTo x4_54 K54 k63 (i63 + 1) zx2_63 zx3_63 za_farOf_63 za_queue_63) (0 : Int32)
      else none
    else none
def mX12_ring_54 (v_thing : Int32) (a_linkTo : Nat → Int32)  : Nat → Int32 → Int32 → Int32 → (Nat → Int32) → (Nat → Int32) → Option (Int32 × (Nat → Int32) × (Nat → Int32))
  | 0, x2_54, x3_54, x4_54, a_farOf_54, a_queue_54 => none
  | k54 + 1, x2_54, x3_54, x4_54, a_farOf_54, a_queue_54 =>
    if x4_54 < x2_54 then
      mX12_ring_63 v_thing a_linkTo x4_54 (fun zx2_54 zx3_54 zx4_54 za_farOf_54 za_queue_54 => mX12_ring_54 v_thing a_linkTo k54 zx2_54 zx3_54 zx4_54 za_farOf_54 za_queue_54) 4 0 x2_54 x3_54 a_farOf_54 a_queue_54
    else
      if x3_54 = 0 then
        some ((0 : Int32), a_farOf_54, a_queue_54)
      else
        some ((1 : Int32), a_farOf_54, a_queue_54)
def mX12_ring_12 (v_thing : Int32) (a_linkTo : Nat → Int32) (a_queue : Nat → Int32)  : Nat → Nat → (Nat → Int32) → Option (Int32 × (Nat → Int32) × (Nat → Int32))
  | 0, i12, a_farOf_12 => if xinb v_thing 40 = true then
      mX12_ring_54 v_thing a_linkTo xfuel (1 : Int32) (0 : Int32) (0 : Int32) (upd a_farOf_12 v_thing.toNatClampNeg 0) (upd a_queue (0 : Int32).toNatClampNeg v_thing)
    else none
  | k12 + 1, i12, a_farOf_12 =>
    mX12_ring_12 v_thing a_linkTo a_queue k12 (i12 + 1) (upd a_farOf_12 (nI i12).toNatClampNeg 100000000)
def mX12_ring (v_thing : Int32) (a_sizeOf : Nat → Int32) (a_linkTo : Nat → Int32) (a_farOf : Nat → Int32) (a_queue : Nat → Int32) : Option (Int32 × (Nat → Int32) × (Nat → Int32)) :=
  (mX12_isThing v_thing a_sizeOf).bind (fun q1 =>
    if q1 = true then
      mX12_ring_12 v_thing a_linkTo a_queue 40 0 a_farOf
    else
      some (((-1) : Int32), a_farOf, a_queue))
def mX12_livings_13   : Nat → Nat → Int32 → (Nat → Int32) → (Nat → Int32) → (Nat → Int32) → Option (Int32 × (Nat → Int32) × (Nat → Int32) × (Nat → Int32))
  | 0, i13, x2_13, a_farOf_13, a_queue_13, a_living_13 => some (x2_13, a_farOf_13, a_queue_13, a_living_13)
  | k13 + 1, i13, x2_13, a_farOf_13, a_queue_13, a_living_13 =>
    if (a_farOf_13 (nI i13).toNatClampNeg) = 100000000 then
      mX12_livings_13 k13 (i13 + 1) x2_13 a_farOf_13 a_queue_13 a_living_13
    else
      if xinb x2_13 40 = true then
        mX12_livings_13 k13 (i13 + 1) (x2_13 + 1) a_farOf_13 a_queue_13 (upd a_living_13 x2_13.toNatClampNeg (nI i13))
      else none
def mX12_livings (v_v : Int32) (a_linkTo : Nat → Int32) (a_rootTo : Nat → Int32) (a_farOf : Nat → Int32) (a_queue : Nat → Int32) (a_living : Nat → Int32) : Option (Int32 × (Nat → Int32) × (Nat → Int32) × (Nat → Int32)) :=
  (mX12_lives v_v ((-1) : Int32) ((-1) : Int32) ((-1) : Int32) a_linkTo a_rootTo a_farOf a_queue).bind (xu fun q1_1 => xu fun q1_2 => fun q1_3 =>
    mX12_livings_13 40 0 (0 : Int32) q1_2 q1_3 a_living)
def mX12_odds_119 (v_thing : Int32) (f_bank : Int32) (a_churnTold : Nat → Int32) (a_rootTo : Nat → Int32) (a_linkTo_87 : Nat → Int32) (a_living_78 : Nat → Int32) (i87 : Nat) (x2_78 : Int32) (x5_78 : Int32) (K87 : Int32 → (Nat → Int32) → (Nat → Int32) → (Nat → Int32) → Option (Int32 × (Nat → Int32) × (Nat → Int32) × (Nat → Int32) × (Nat → Int32))) : Nat → Int32 → Int32 → (Nat → Int32) → (Nat → Int32) → (Nat → Int32) → Option (Int32 × (Nat → Int32) × (Nat → Int32) × (Nat → Int32) × (Nat → Int32))
  | 0, x4_119, x9_119, a_linkTo_119, a_farOf_119, a_queue_119 => none
  | k119 + 1, x4_119, x9_119, a_linkTo_119, a_farOf_119, a_queue_119 =>
    if x9_119 < x2_78 then
      if xinb x9_119 40 = true then
        (mX12_lives (0 : Int32) ((-1) : Int32) ((-1) : Int32) ((-1) : Int32) (upd a_linkTo_119 ((4 * (a_living_78 x5_78.toNatClampNeg)) + (nI i87)).toNatClampNeg (a_living_78 x9_119.toNatClampNeg)) a_rootTo a_farOf_119 a_queue_119).bind (xu fun q15_1 => xu fun q15_2 => fun q15_3 =>
          if (q15_2 v_thing.toNatClampNeg) < 100000000 then
            if xinb f_bank 2 = true then
              mX12_odds_119 v_thing f_bank a_churnTold a_rootTo a_linkTo_87 a_living_78 i87 x2_78 x5_78 K87 k119 (x4_119 + (a_churnTold f_bank.toNatClampNeg)) (x9_119 + 1) (upd a_linkTo_119 ((4 * (a_living_78 x5_78.toNatClampNeg)) + (nI i87)).toNatClampNeg (a_living_78 x9_119.toNatClampNeg)) q15_2 q15_3
            else none
          else
            mX12_odds_119 v_thing f_bank a_churnTold a_rootTo a_linkTo_87 a_living_78 i87 x2_78 x5_78 K87 k119 (x4_119 + 0) (x9_119 + 1) (upd a_linkTo_119 ((4 * (a_living_78 x5_78.toNatClampNeg)) + (nI i87)).toNatClampNeg (a_living_78 x9_119.toNatClampNeg)) q15_2 q15_3)
      else none
    else
      K87 x4_119 (upd a_linkTo_119 ((4 * (a_living_78 x5_78.toNatClampNeg)) + (nI i87)).toNatClampNeg (a_linkTo_87 ((4 * (a_living_78 x5_78.toNatClampNeg)) + (nI i87)).toNatClampNeg)) a_farOf_119 a_queue_119
def mX12_odds_87 (v_thing : Int32) (f_bank : Int32) (a_churnTold : Nat → Int32) (a_rootTo : Nat → Int32) (a_living_78 : Nat → Int32) (x2_78 : Int32) (x5_78 : Int32) (K78 : Int32 → Int32 → Int32 → (Nat → Int32) → (Nat → Int32) → (Nat → Int32) → (Nat → Int32) → Option (Int32 × (Nat → Int32) × (Nat → Int32) × (Nat → Int32) × (Nat → Int32))) : Nat → Nat → Int32 → (Nat → Int32) → (Nat → Int32) → (Nat → Int32) → Option (Int32 × (Nat → Int32) × (Nat → Int32) × (Nat → Int32) × (Nat → Int32))
  | 0, i87, x4_87, a_linkTo_87, a_farOf_87, a_queue_87 => K78 x2_78 x4_87 (x5_78 + 1) a_linkTo_87 a_farOf_87 a_queue_87 a_living_78
  | k87 + 1, i87, x4_87, a_linkTo_87, a_farOf_87, a_queue_87 =>
    if xinb x5_78 40 = true then
      if xinb ((4 * (a_living_78 x5_78.toNatClampNeg)) + (nI i87)) 3520 = true then
        mX12_odds_119 v_thing f_bank a_churnTold a_rootTo a_linkTo_87 a_living_78 i87 x2_78 x5_78 (fun zx4_87 za_linkTo_87 za_farOf_87 za_queue_87 => mX12_odds_87 v_thing f_bank a_churnTold a_rootTo a_living_78 x2_78 x5_78 K78 k87 (i87 + 1) zx4_87 za_linkTo_87 za_farOf_87 za_queue_87) xfuel x4_87 (0 : Int32) a_linkTo_87 a_farOf_87 a_queue_87
      else none
    else none
def mX12_odds_78 (v_thing : Int32) (f_bank : Int32) (a_churnTold : Nat → Int32) (a_rootTo : Nat → Int32)  : Nat → Int32 → Int32 → Int32 → (Nat → Int32) → (Nat → Int32) → (Nat → Int32) → (Nat → Int32) → Option (Int32 × (Nat → Int32) × (Nat → Int32) × (Nat → Int32) × (Nat → Int32))
  | 0, x2_78, x4_78, x5_78, a_linkTo_78, a_farOf_78, a_queue_78, a_living_78 => none
  | k78 + 1, x2_78, x4_78, x5_78, a_linkTo_78, a_farOf_78, a_queue_78, a_living_78 =>
    if x5_78 < x2_78 then
      mX12_odds_87 v_thing f_bank a_churnTold a_rootTo a_living_78 x2_78 x5_78 (fun zx2_78 zx4_78 zx5_78 za_linkTo_78 za_farOf_78 za_queue_78 za_living_78 => mX12_odds_78 v_thing f_bank a_churnTold a_rootTo k78 zx2_78 zx4_78 zx5_78 za_linkTo_78 za_farOf_78 za_queue_78 za_living_78) 4 0 x4_78 a_linkTo_78 a_farOf_78 a_queue_78
    else
      some (x4_78, a_linkTo_78, a_farOf_78, a_queue_78, a_living_78)
def mX12_odds_15 (v_thing : Int32) (f_bank : Int32) (a_churnTold : Nat → Int32) (a_linkTo : Nat → Int32) (a_rootTo : Nat → Int32) (a_farOf : Nat → Int32) (a_queue : Nat → Int32) (a_living : Nat → Int32)   : Option (Int32 × (Nat → Int32) × (Nat → Int32) × (Nat → Int32) × (Nat → Int32)) :=
  (mX12_livings (0 : Int32) a_linkTo a_rootTo a_farOf a_queue a_living).bind (xu fun q4_1 => xu fun q4_2 => xu fun q4_3 => fun q4_4 =>
    if q4_1 = 0 then
      some (((-1) : Int32), a_linkTo, q4_2, q4_3, q4_4)
    else
      if v_thing = (-1) then
        some (100 * ((4 * q4_1) * q4_1), a_linkTo, q4_2, q4_3, q4_4)
      else
        if xinb v_thing 40 = true then
          if (q4_2 v_thing.toNatClampNeg) < 100000000 then
            if xinb f_bank 2 = true then
              mX12_odds_78 v_thing f_bank a_churnTold a_rootTo xfuel q4_1 ((100 - (a_churnTold f_bank.toNatClampNeg)) * ((4 * q4_1) * q4_1)) (0 : Int32) a_linkTo q4_2 q4_3 q4_4
            else none
          else
            mX12_odds_78 v_thing f_bank a_churnTold a_rootTo xfuel q4_1 (0 : Int32) (0 : Int32) a_linkTo q4_2 q4_3 q4_4
        else none)
def mX12_odds (v_thing : Int32) (f_bank : Int32) (a_churnTold : Nat → Int32) (a_sizeOf : Nat → Int32) (a_linkTo : Nat → Int32) (a_rootTo : Nat → Int32) (a_farOf : Nat → Int32) (a_queue : Nat → Int32) (a_living : Nat → Int32) : Option (Int32 × (Nat → Int32) × (Nat → Int32) × (Nat → Int32) × (Nat → Int32)) :=
  if v_thing = (-1) then
    mX12_odds_15 v_thing f_bank a_churnTold a_linkTo a_rootTo a_farOf a_queue a_living
  else
    (mX12_isThing v_thing a_sizeOf).bind (fun q2 =>
      if q2 = true then
        mX12_odds_15 v_thing f_bank a_churnTold a_linkTo a_rootTo a_farOf a_queue a_living
      else
        some (((-1) : Int32), a_linkTo, a_farOf, a_queue, a_living))
def mX12_meet_110 (f_taped : Int32) (a_tape : Nat → Int32) (a_refused : Nat → Int32)  : Nat → Int32 → (Nat → Int32) → (Nat → Int32) → (Nat → Int32) → Option (Int32 × Int32 × Int32 × (Nat → Int32) × (Nat → Int32) × (Nat → Int32) × (Nat → Int32))
  | 0, x3_110, a_metSteps_110, a_metWhat_110, a_metNumber_110 => none
  | k110 + 1, x3_110, a_metSteps_110, a_metWhat_110, a_metNumber_110 =>
    if x3_110 < (f_taped / 3) then
      if xinb (3 * x3_110) 1800 = true then
        if xinb x3_110 16 = true then
          if xinb ((3 * x3_110) + 1) 1800 = true then
            if xinb ((3 * x3_110) + 2) 1800 = true then
              mX12_meet_110 f_taped a_tape a_refused k110 (x3_110 + 1) (upd a_metSteps_110 x3_110.toNatClampNeg (a_tape (3 * x3_110).toNatClampNeg)) (upd a_metWhat_110 x3_110.toNatClampNeg (a_tape ((3 * x3_110) + 1).toNatClampNeg)) (upd a_metNumber_110 x3_110.toNatClampNeg (a_tape ((3 * x3_110) + 2).toNatClampNeg))
            else none
          else none
        else none
      else none
    else
      some (f_taped / 3, (0 : Int32), f_taped / 3, a_refused, a_metSteps_110, a_metWhat_110, a_metNumber_110)
def mX12_meet_91 (f_taped : Int32) (f_metMany : Int32) (a_tape : Nat → Int32) (a_refused : Nat → Int32) (a_metSteps : Nat → Int32) (a_metWhat : Nat → Int32) (a_metNumber : Nat → Int32)  (x2_91 : Int32) : Option (Int32 × Int32 × Int32 × (Nat → Int32) × (Nat → Int32) × (Nat → Int32) × (Nat → Int32)) :=
  if x2_91 = 0 then
    (mX12_refuses (5 : Int32) a_refused).bind (xu fun q13_1 => fun q13_2 =>
      some (q13_1, (0 : Int32), f_metMany, q13_2, a_metSteps, a_metWhat, a_metNumber))
  else
    mX12_meet_110 f_taped a_tape a_refused xfuel (0 : Int32) a_metSteps a_metWhat a_metNumber
def mX12_meet_34 (f_taped : Int32) (f_metMany : Int32) (a_tape : Nat → Int32) (a_refused : Nat → Int32) (a_metSteps : Nat → Int32) (a_metWhat : Nat → Int32) (a_metNumber : Nat → Int32)  : Nat → Int32 → Int32 → Option (Int32 × Int32 × Int32 × (Nat → Int32) × (Nat → Int32) × (Nat → Int32) × (Nat → Int32))
  | 0, x2_34, x3_34 => none
  | k34 + 1, x2_34, x3_34 =>
    if x3_34 < f_taped then
      if x2_34 = 0 then
        mX12_meet_91 f_taped f_metMany a_tape a_refused a_metSteps a_metWhat a_metNumber x2_34
      else
        if xinb x3_34 1800 = true then
          if 20 < (a_tape x3_34.toNatClampNeg) then
            mX12_meet_34 f_taped f_metMany a_tape a_refused a_metSteps a_metWhat a_metNumber k34 (0 : Int32) (x3_34 + 3)
          else
            if xinb (x3_34 + 1) 1800 = true then
              if 2 < (a_tape (x3_34 + 1).toNatClampNeg) then
                mX12_meet_34 f_taped f_metMany a_tape a_refused a_metSteps a_metWhat a_metNumber k34 (0 : Int32) (x3_34 + 3)
              else
                if xinb (x3_34 + 2) 1800 = true then
                  if 40 < (a_tape (x3_34 + 2).toNatClampNeg) then
                    mX12_meet_34 f_taped f_metMany a_tape a_refused a_metSteps a_metWhat a_metNumber k34 (0 : Int32) (x3_34 + 3)
                  else
                    mX12_meet_34 f_taped f_metMany a_tape a_refused a_metSteps a_metWhat a_metNumber k34 (1 : Int32) (x3_34 + 3)
                else none
            else none
        else none
    else
      mX12_meet_91 f_taped f_metMany a_tape a_refused a_metSteps a_metWhat a_metNumber x2_34
def mX12_meet (f_taped : Int32) (f_metMany : Int32) (a_tape : Nat → Int32) (a_refused : Nat → Int32) (a_metSteps : Nat → Int32) (a_metWhat : Nat → Int32) (a_metNumber : Nat → Int32) : Option (Int32 × Int32 × Int32 × (Nat → Int32) × (Nat → Int32) × (Nat → Int32) × (Nat → Int32)) :=
  if 0 < f_taped then
    if (f_taped - f_taped / 3 * 3) = 0 then
      if 48 < f_taped then
        mX12_meet_34 f_taped f_metMany a_tape a_refused a_metSteps a_metWhat a_metNumber xfuel (0 : Int32) (0 : Int32)
      else
        mX12_meet_34 f_taped f_metMany a_tape a_refused a_metSteps a_metWhat a_metNumber xfuel (1 : Int32) (0 : Int32)
    else
      mX12_meet_34 f_taped f_metMany a_tape a_refused a_metSteps a_metWhat a_metNumber xfuel (0 : Int32) (0 : Int32)
  else
    mX12_meet_34 f_taped f_metMany a_tape a_refused a_metSteps a_metWhat a_metNumber xfuel (0 : Int32) (0 : Int32)
def mX12_canBe_87 (v_z : Int32) (f_bank : Int32) (f_metMany : Int32) (a_unitsTold : Nat → Int32) (a_sumFrom : Nat → Int32) (a_sumBehind : Nat → Int32) (a_codeSort : Nat → Int32) (a_codeValue : Nat → Int32) (a_metSteps : Nat → Int32) (a_metWhat : Nat → Int32) (a_metNumber : Nat → Int32) (a_ageOf_21 : Nat → Int32) (a_asked_21 : Nat → Int32) (a_carOf_21 : Nat → Int32) (a_isMoved_21 : Nat → Int32) (a_isStaying_21 : Nat → Int32) (a_keptMany_21 : Nat → Int32) (a_keptRow_21 : Nat → Int32) (a_linkTo_21 : Nat → Int32) (a_markOf_21 : Nat → Int32) (a_newPlace_21 : Nat → Int32) (a_placeOf_21 : Nat → Int32) (a_rootTo_21 : Nat → Int32) (a_sizeOf_21 : Nat → Int32) (a_stack_21 : Nat → Int64) (a_stayTrain_21 : Nat → Int32) (a_stepOf_21 : Nat → Int32) (a_trainOf_21 : Nat → Int32) (f_ruleNow_21 : Int32) (x4_21 : Int32) (K21 : Int32 → Int32 → Int32 → Int32 → Int32 → Int32 → Bool → (Nat → Int32) → (Nat → Int32) → (Nat → Int32) → (Nat → Int32) → (Nat → Int32) → (Nat → Int32) → (Nat → Int32) → (Nat → Int32) → (Nat → Int32) → (Nat → Int32) → (Nat → Int32) → (Nat → Int64) → (Nat → Int32) → (Nat → Int32) → (Nat → Int32) → (Nat → Int32) → (Nat → Int32) → (Nat → Int32) → Option (Bool × Int32 × Int32 × Int32 × Int32 × Bool × (Nat → Int32) × (Nat → Int32) × (Nat → Int32) × (Nat → Int32) × (Nat → Int32) × (Nat → Int32) × (Nat → Int32) × (Nat → Int32) × (Nat → Int32) × (Nat → Int32) × (Nat → Int32) × (Nat → Int64) × (Nat → Int32) × (Nat → Int32) × (Nat → Int32) × (Nat → Int32) × (Nat → Int32) × (Nat → Int32))) : Nat → Int32 → Int32 → (Nat → Int32) → Option (Bool × Int32 × Int32 × Int32 × Int32 × Bool × (Nat → Int32) × (Nat → Int32) × (Nat → Int32) × (Nat → Int32) × (Nat → Int32) × (Nat → Int32) × (Nat → Int32) × (Nat → Int32) × (Nat → Int32) × (Nat → Int32) × (Nat → Int32) × (Nat → Int64) × (Nat → Int32) × (Nat → Int32) × (Nat → Int32) × (Nat → Int32) × (Nat → Int32) × (Nat → Int32))
  | 0, x3_87, x6_87, a_manyBy_87 => none
  | k87 + 1, x3_87, x6_87, a_manyBy_87 =>
    if x6_87 < f_metMany then
      if xinb x6_87 16 = true then
        if (a_metSteps x6_87.toNatClampNeg) = x4_21 then
          if xinb (((63 * v_z) + (3 * x4_21)) + (a_metWhat x6_87.toNatClampNeg)) 6300 = true then
            if (a_manyBy_87 (((63 * v_z) + (3 * x4_21)) + (a_metWhat x6_87.toNatClampNeg)).toNatClampNeg) = (a_metNumber x6_87.toNatClampNeg) then
              mX12_canBe_87 v_z f_bank f_metMany a_unitsTold a_sumFrom a_sumBehind a_codeSort a_codeValue a_metSteps a_metWhat a_metNumber a_ageOf_21 a_asked_21 a_carOf_21 a_isMoved_21 a_isStaying_21 a_keptMany_21 a_keptRow_21 a_linkTo_21 a_markOf_21 a_newPlace_21 a_placeOf_21 a_rootTo_21 a_sizeOf_21 a_stack_21 a_stayTrain_21 a_stepOf_21 a_trainOf_21 f_ruleNow_21 x4_21 K21 k87 (x3_87 + 1) (x6_87 + 1) a_manyBy_87
            else
              mX12_canBe_87 v_z f_bank f_metMany a_unitsTold a_sumFrom a_sumBehind a_codeSort a_codeValue a_metSteps a_metWhat a_metNumber a_ageOf_21 a_asked_21 a_carOf_21 a_isMoved_21 a_isStaying_21 a_keptMany_21 a_keptRow_21 a_linkTo_21 a_markOf_21 a_newPlace_21 a_placeOf_21 a_rootTo_21 a_sizeOf_21 a_stack_21 a_stayTrain_21 a_stepOf_21 a_trainOf_21 f_ruleNow_21 x4_21 K21 k87 (x3_87 + 0) (x6_87 + 1) a_manyBy_87
          else none
        else
          mX12_canBe_87 v_z f_bank f_metMany a_unitsTold a_sumFrom a_sumBehind a_codeSort a_codeValue a_metSteps a_metWhat a_metNumber a_ageOf_21 a_asked_21 a_carOf_21 a_isMoved_21 a_isStaying_21 a_keptMany_21 a_keptRow_21 a_linkTo_21 a_markOf_21 a_newPlace_21 a_placeOf_21 a_rootTo_21 a_sizeOf_21 a_stack_21 a_stayTrain_21 a_stepOf_21 a_trainOf_21 f_ruleNow_21 x4_21 K21 k87 (x3_87 + 0) (x6_87 + 1) a_manyBy_87
      else none
    else
      (mX12_ticks (1 : Int32) f_bank f_ruleNow_21 a_unitsTold a_sumFrom a_sumBehind a_codeSort a_codeValue a_stepOf_21 a_sizeOf_21 a_trainOf_21 a_carOf_21 a_placeOf_21 a_ageOf_21 a_markOf_21 a_linkTo_21 a_rootTo_21 a_keptMany_21 a_keptRow_21 a_stack_21 a_asked_21 a_newPlace_21 a_isMoved_21 a_isStaying_21 a_stayTrain_21).bind (xu fun q16_1 => xu fun q16_2 => xu fun q16_3 => xu fun q16_4 => xu fun q16_5 => xu fun q16_6 => xu fun q16_7 => xu fun q16_8 => xu fun q16_9 => xu fun q16_10 => xu fun q16_11 => xu fun q16_12 => xu fun q16_13 => xu fun q16_14 => xu fun q16_15 => xu fun q16_16 => xu fun q16_17 => xu fun q16_18 => xu fun q16_19 => xu fun q16_20 => fun q16_21 =>
        K21 x3_87 (x4_21 + 1) q16_1 q16_2 q16_3 q16_4 q16_5 q16_6 q16_7 q16_8 q16_9 q16_10 q16_11 q16_12 q16_13 a_rootTo_21 q16_14 q16_15 q16_16 q16_17 q16_18 q16_19 q16_20 q16_21 a_manyBy_87)
def mX12_canBe_21 (v_z : Int32) (f_bank : Int32) (f_isHeap : Bool) (f_metMany : Int32) (a_unitsTold : Nat → Int32) (a_sumFrom : Nat → Int32) (a_sumBehind : Nat → Int32) (a_codeSort : Nat → Int32) (a_codeValue : Nat → Int32) (a_metSteps : Nat → Int32) (a_metWhat : Nat → Int32) (a_metNumber : Nat → Int32)  : Nat → Int32 → Int32 → Int32 → Int32 → Int32 → Int32 → Bool → (Nat → Int32) → (Nat → Int32) → (Nat → Int32) → (Nat → Int32) → (Nat → Int32) → (Nat → Int32) → (Nat → Int32) → (Nat → Int32) → (Nat → Int32) → (Nat → Int32) → (Nat → Int32) → (Nat → Int64) → (Nat → Int32) → (Nat → Int32) → (Nat → Int32) → (Nat → Int32) → (Nat → Int32) → (Nat → Int32) → Option (Bool × Int32 × Int32 × Int32 × Int32 × Bool × (Nat → Int32) × (Nat → Int32) × (Nat → Int32) × (Nat → Int32) × (Nat → Int32) × (Nat → Int32) × (Nat → Int32) × (Nat → Int32) × (Nat → Int32) × (Nat → Int32) × (Nat → Int32) × (Nat → Int64) × (Nat → Int32) × (Nat → Int32) × (Nat → Int32) × (Nat → Int32) × (Nat → Int32) × (Nat → Int32))
  | 0, x3_21, x4_21, f_ruleNow_21, f_fell_21, f_went_21, f_cost_21, f_isFutile_21, a_stepOf_21, a_sizeOf_21, a_trainOf_21, a_carOf_21, a_placeOf_21, a_ageOf_21, a_markOf_21, a_linkTo_21, a_rootTo_21, a_keptMany_21, a_keptRow_21, a_stack_21, a_asked_21, a_newPlace_21, a_isMoved_21, a_isStaying_21, a_stayTrain_21, a_manyBy_21 => none
  | k21 + 1, x3_21, x4_21, f_ruleNow_21, f_fell_21, f_went_21, f_cost_21, f_isFutile_21, a_stepOf_21, a_sizeOf_21, a_trainOf_21, a_carOf_21, a_placeOf_21, a_ageOf_21, a_markOf_21, a_linkTo_21, a_rootTo_21, a_keptMany_21, a_keptRow_21, a_stack_21, a_asked_21, a_newPlace_21, a_isMoved_21, a_isStaying_21, a_stayTrain_21, a_manyBy_21 =>
    if (mX12_isAhead x4_21 (0 : Int32) (20 : Int32) f_isHeap a_stepOf_21) = true then
      (mX12_trainsOf (1 : Int32) a_sizeOf_21 a_trainOf_21).bind (fun q4 =>
        if xinb ((63 * v_z) + (3 * x4_21)) 6300 = true then
          (mX12_allCars (1 : Int32) a_sizeOf_21 a_trainOf_21 a_carOf_21).bind (fun q6 =>
            if xinb (((63 * v_z) + (3 * x4_21)) + 1) 6300 = true then
              (mX12_thingsOf (1 : Int32) a_sizeOf_21).bind (fun q8 =>
                if xinb (((63 * v_z) + (3 * x4_21)) + 2) 6300 = true then
                  mX12_canBe_87 v_z f_bank f_metMany a_unitsTold a_sumFrom a_sumBehind a_codeSort a_codeValue a_metSteps a_metWhat a_metNumber a_ageOf_21 a_asked_21 a_carOf_21 a_isMoved_21 a_isStaying_21 a_keptMany_21 a_keptRow_21 a_linkTo_21 a_markOf_21 a_newPlace_21 a_placeOf_21 a_rootTo_21 a_sizeOf_21 a_stack_21 a_stayTrain_21 a_stepOf_21 a_trainOf_21 f_ruleNow_21 x4_21 (fun zx3_21 zx4_21 zf_ruleNow_21 zf_fell_21 zf_went_21 zf_cost_21 zf_isFutile_21 za_stepOf_21 za_sizeOf_21 za_trainOf_21 za_carOf_21 za_placeOf_21 za_ageOf_21 za_markOf_21 za_linkTo_21 za_rootTo_21 za_keptMany_21 za_keptRow_21 za_stack_21 za_asked_21 za_newPlace_21 za_isMoved_21 za_isStaying_21 za_stayTrain_21 za_manyBy_21 => mX12_canBe_21 v_z f_bank f_isHeap f_metMany a_unitsTold a_sumFrom a_sumBehind a_codeSort a_codeValue a_metSteps a_metWhat a_metNumber k21 zx3_21 zx4_21 zf_ruleNow_21 zf_fell_21 zf_went_21 zf_cost_21 zf_isFutile_21 za_stepOf_21 za_sizeOf_21 za_trainOf_21 za_carOf_21 za_placeOf_21 za_ageOf_21 za_markOf_21 za_linkTo_21 za_rootTo_21 za_keptMany_21 za_keptRow_21 za_stack_21 za_asked_21 za_newPlace_21 za_isMoved_21 za_isStaying_21 za_stayTrain_21 za_manyBy_21) xfuel x3_21 (0 : Int32) (upd (upd (upd a_manyBy_21 ((63 * v_z) + (3 * x4_21)).toNatClampNeg q4) (((63 * v_z) + (3 * x4_21)) + 1).toNatClampNeg q6) (((63 * v_z) + (3 * x4_21)) + 2).toNatClampNeg q8)
                else none)
            else none)
        else none)
    else
      if x3_21 = f_metMany then
        some (true, f_ruleNow_21, f_fell_21, f_went_21, f_cost_21, f_isFutile_21, a_stepOf_21, a_sizeOf_21, a_trainOf_21, a_carOf_21, a_placeOf_21, a_ageOf_21, a_markOf_21, a_linkTo_21, a_rootTo_21, a_keptMany_21, a_keptRow_21, a_stack_21, a_asked_21, a_newPlace_21, a_isMoved_21, a_isStaying_21, a_stayTrain_21, a_manyBy_21)
      else
        some (false, f_ruleNow_21, f_fell_21, f_went_21, f_cost_21, f_isFutile_21, a_stepOf_21, a_sizeOf_21, a_trainOf_21, a_carOf_21, a_placeOf_21, a_ageOf_21, a_markOf_21, a_linkTo_21, a_rootTo_21, a_keptMany_21, a_keptRow_21, a_stack_21, a_asked_21, a_newPlace_21, a_isMoved_21, a_isStaying_21, a_stayTrain_21, a_manyBy_21)
def mX12_canBe (v_t : Int32) (v_z : Int32) (f_bank : Int32) (f_isHeap : Bool) (f_ruleNow : Int32) (f_fell : Int32) (f_went : Int32) (f_cost : Int32) (f_isFutile : Bool) (f_metMany : Int32) (a_unitsTold : Nat → Int32) (a_sumFrom : Nat → Int32) (a_sumBehind : Nat → Int32) (a_codeSort : Nat → Int32) (a_codeValue : Nat → Int32) (a_stepOf : Nat → Int32) (a_sizeOf : Nat → Int32) (a_trainOf : Nat → Int32) (a_carOf : Nat → Int32) (a_placeOf : Nat → Int32) (a_ageOf : Nat → Int32) (a_markOf : Nat → Int32) (a_linkTo : Nat → Int32) (a_rootTo : Nat → Int32) (a_keptMany : Nat → Int32) (a_keptRow : Nat → Int32) (a_stack : Nat → Int64) (a_asked : Nat → Int32) (a_newPlace : Nat → Int32) (a_isMoved : Nat → Int32) (a_isStaying : Nat → Int32) (a_stayTrain : Nat → Int32) (a_metSteps : Nat → Int32) (a_metWhat : Nat → Int32) (a_metNumber : Nat → Int32) (a_manyBy : Nat → Int32) : Option (Bool × Int32 × Int32 × Int32 × Int32 × Bool × (Nat → Int32) × (Nat → Int32) × (Nat → Int32) × (Nat → Int32) × (Nat → Int32) × (Nat → Int32) × (Nat → Int32) × (Nat → Int32) × (Nat → Int32) × (Nat → Int32) × (Nat → Int32) × (Nat → Int64) × (Nat → Int32) × (Nat → Int32) × (Nat → Int32) × (Nat → Int32) × (Nat → Int32) × (Nat → Int32)) :=
  (mX12_copies (1 : Int32) (0 : Int32) a_stepOf a_sizeOf a_trainOf a_carOf a_placeOf a_ageOf a_markOf a_linkTo a_rootTo a_keptMany a_keptRow).bind (xu fun q1_1 => xu fun q1_2 => xu fun q1_3 => xu fun q1_4 => xu fun q1_5 => xu fun q1_6 => xu fun q1_7 => xu fun q1_8 => xu fun q1_9 => xu fun q1_10 => fun q1_11 =>
    if xinb (40 + v_t) 880 = true then
      mX12_canBe_21 v_z f_bank f_isHeap f_metMany a_unitsTold a_sumFrom a_sumBehind a_codeSort a_codeValue a_metSteps a_metWhat a_metNumber xfuel (0 : Int32) (0 : Int32) f_ruleNow f_fell f_went f_cost f_isFutile q1_1 (upd q1_2 (40 + v_t).toNatClampNeg v_z) q1_3 q1_4 q1_5 q1_6 q1_7 q1_8 q1_9 q1_10 q1_11 a_stack a_asked a_newPlace a_isMoved a_isStaying a_stayTrain a_manyBy
    else none)
def mX12_leaves_4 (v_t : Int32) (f_bank : Int32) (f_isHeap : Bool) (f_metMany : Int32) (a_unitsTold : Nat → Int32) (a_sumFrom : Nat → Int32) (a_sumBehind : Nat → Int32) (a_codeSort : Nat → Int32) (a_codeValue : Nat → Int32) (a_metSteps : Nat → Int32) (a_metWhat : Nat → Int32) (a_metNumber : Nat → Int32)  : Nat → Int32 → Int32 → Int32 → Int32 → Int32 → Int32 → Bool → (Nat → Int32) → (Nat → Int32) → (Nat → Int32) → (Nat → Int32) → (Nat → Int32) → (Nat → Int32) → (Nat → Int32) → (Nat → Int32) → (Nat → Int32) → (Nat → Int32) → (Nat → Int32) → (Nat → Int64) → (Nat → Int32) → (Nat → Int32) → (Nat → Int32) → (Nat → Int32) → (Nat → Int32) → (Nat → Int32) → (Nat → Int32) → Option (Int32 × Int32 × Int32 × Int32 × Int32 × Bool × (Nat → Int32) × (Nat → Int32) × (Nat → Int32) × (Nat → Int32) × (Nat → Int32) × (Nat → Int32) × (Nat → Int32) × (Nat → Int32) × (Nat → Int32) × (Nat → Int32) × (Nat → Int32) × (Nat → Int64) × (Nat → Int32) × (Nat → Int32) × (Nat → Int32) × (Nat → Int32) × (Nat → Int32) × (Nat → Int32) × (Nat → Int32))
  | 0, x2_4, x3_4, f_ruleNow_4, f_fell_4, f_went_4, f_cost_4, f_isFutile_4, a_stepOf_4, a_sizeOf_4, a_trainOf_4, a_carOf_4, a_placeOf_4, a_ageOf_4, a_markOf_4, a_linkTo_4, a_rootTo_4, a_keptMany_4, a_keptRow_4, a_stack_4, a_asked_4, a_newPlace_4, a_isMoved_4, a_isStaying_4, a_stayTrain_4, a_isLeft_4, a_manyBy_4 => none
  | k4 + 1, x2_4, x3_4, f_ruleNow_4, f_fell_4, f_went_4, f_cost_4, f_isFutile_4, a_stepOf_4, a_sizeOf_4, a_trainOf_4, a_carOf_4, a_placeOf_4, a_ageOf_4, a_markOf_4, a_linkTo_4, a_rootTo_4, a_keptMany_4, a_keptRow_4, a_stack_4, a_asked_4, a_newPlace_4, a_isMoved_4, a_isStaying_4, a_stayTrain_4, a_isLeft_4, a_manyBy_4 =>
    if xinb f_bank 2 = true then
      if (a_unitsTold f_bank.toNatClampNeg) < x3_4 then
        some (x2_4, f_ruleNow_4, f_fell_4, f_went_4, f_cost_4, f_isFutile_4, a_stepOf_4, a_sizeOf_4, a_trainOf_4, a_carOf_4, a_placeOf_4, a_ageOf_4, a_markOf_4, a_linkTo_4, a_rootTo_4, a_keptMany_4, a_keptRow_4, a_stack_4, a_asked_4, a_newPlace_4, a_isMoved_4, a_isStaying_4, a_stayTrain_4, a_isLeft_4, a_manyBy_4)
      else
        (mX12_canBe v_t x3_4 f_bank f_isHeap f_ruleNow_4 f_fell_4 f_went_4 f_cost_4 f_isFutile_4 f_metMany a_unitsTold a_sumFrom a_sumBehind a_codeSort a_codeValue a_stepOf_4 a_sizeOf_4 a_trainOf_4 a_carOf_4 a_placeOf_4 a_ageOf_4 a_markOf_4 a_linkTo_4 a_rootTo_4 a_keptMany_4 a_keptRow_4 a_stack_4 a_asked_4 a_newPlace_4 a_isMoved_4 a_isStaying_4 a_stayTrain_4 a_metSteps a_metWhat a_metNumber a_manyBy_4).bind (xu fun q3_1 => xu fun q3_2 => xu fun q3_3 => xu fun q3_4 => xu fun q3_5 => xu fun q3_6 => xu fun q3_7 => xu fun q3_8 => xu fun q3_9 => xu fun q3_10 => xu fun q3_11 => xu fun q3_12 => xu fun q3_13 => xu fun q3_14 => xu fun q3_15 => xu fun q3_16 => xu fun q3_17 => xu fun q3_18 => xu fun q3_19 => xu fun q3_20 => xu fun q3_21 => xu fun q3_22 => xu fun q3_23 => fun q3_24 =>
          if q3_1 = true then
            if xinb x3_4 100 = true then
              mX12_leaves_4 v_t f_bank f_isHeap f_metMany a_unitsTold a_sumFrom a_sumBehind a_codeSort a_codeValue a_metSteps a_metWhat a_metNumber k4 (x2_4 + ((upd a_isLeft_4 x3_4.toNatClampNeg 1) x3_4.toNatClampNeg)) (x3_4 + 1) q3_2 q3_3 q3_4 q3_5 q3_6 q3_7 q3_8 q3_9 q3_10 q3_11 q3_12 q3_13 q3_14 q3_15 q3_16 q3_17 q3_18 q3_19 q3_20 q3_21 q3_22 q3_23 (upd a_isLeft_4 x3_4.toNatClampNeg 1) q3_24
            else none
          else
            if xinb x3_4 100 = true then
              mX12_leaves_4 v_t f_bank f_isHeap f_metMany a_unitsTold a_sumFrom a_sumBehind a_codeSort a_codeValue a_metSteps a_metWhat a_metNumber k4 (x2_4 + ((upd a_isLeft_4 x3_4.toNatClampNeg 0) x3_4.toNatClampNeg)) (x3_4 + 1) q3_2 q3_3 q3_4 q3_5 q3_6 q3_7 q3_8 q3_9 q3_10 q3_11 q3_12 q3_13 q3_14 q3_15 q3_16 q3_17 q3_18 q3_19 q3_20 q3_21 q3_22 q3_23 (upd a_isLeft_4 x3_4.toNatClampNeg 0) q3_24
            else none)
    else none
def mX12_leaves (v_t : Int32) (f_bank : Int32) (f_isHeap : Bool) (f_ruleNow : Int32) (f_fell : Int32) (f_went : Int32) (f_cost : Int32) (f_isFutile : Bool) (f_metMany : Int32) (a_unitsTold : Nat → Int32) (a_sumFrom : Nat → Int32) (a_sumBehind : Nat → Int32) (a_codeSort : Nat → Int32) (a_codeValue : Nat → Int32) (a_stepOf : Nat → Int32) (a_sizeOf : Nat → Int32) (a_trainOf : Nat → Int32) (a_carOf : Nat → Int32) (a_placeOf : Nat → Int32) (a_ageOf : Nat → Int32) (a_markOf : Nat → Int32) (a_linkTo : Nat → Int32) (a_rootTo : Nat → Int32) (a_keptMany : Nat → Int32) (a_keptRow : Nat → Int32) (a_stack : Nat → Int64) (a_asked : Nat → Int32) (a_newPlace : Nat → Int32) (a_isMoved : Nat → Int32) (a_isStaying : Nat → Int32) (a_stayTrain : Nat → Int32) (a_metSteps : Nat → Int32) (a_metWhat : Nat → Int32) (a_metNumber : Nat → Int32) (a_isLeft : Nat → Int32) (a_manyBy : Nat → Int32) : Option (Int32 × Int32 × Int32 × Int32 × Int32 × Bool × (Nat → Int32) × (Nat → Int32) × (Nat → Int32) × (Nat → Int32) × (Nat → Int32) × (Nat → Int32) × (Nat → Int32) × (Nat → Int32) × (Nat → Int32) × (Nat → Int32) × (Nat → Int32) × (Nat → Int64) × (Nat → Int32) × (Nat → Int32) × (Nat → Int32) × (Nat → Int32) × (Nat → Int32) × (Nat → Int32) × (Nat → Int32)) :=
  mX12_leaves_4 v_t f_bank f_isHeap f_metMany a_unitsTold a_sumFrom a_sumBehind a_codeSort a_codeValue a_metSteps a_metWhat a_metNumber xfuel (0 : Int32) (1 : Int32) f_ruleNow f_fell f_went f_cost f_isFutile a_stepOf a_sizeOf a_trainOf a_carOf a_placeOf a_ageOf a_markOf a_linkTo a_rootTo a_keptMany a_keptRow a_stack a_asked a_newPlace a_isMoved a_isStaying a_stayTrain a_isLeft a_manyBy
def mX12_sizes_34 (v_k : Int32) (f_bank : Int32) (a_unitsTold : Nat → Int32)  : Nat → Int32 → Int32 → Int32 → Int32 → Int32 → Int32 → Bool → (Nat → Int32) → (Nat → Int32) → (Nat → Int32) → (Nat → Int32) → (Nat → Int32) → (Nat → Int32) → (Nat → Int32) → (Nat → Int32) → (Nat → Int32) → (Nat → Int32) → (Nat → Int32) → (Nat → Int64) → (Nat → Int32) → (Nat → Int32) → (Nat → Int32) → (Nat → Int32) → (Nat → Int32) → (Nat → Int32) → (Nat → Int32) → Option (Int32 × Int32 × Int32 × Int32 × Int32 × Bool × (Nat → Int32) × (Nat → Int32) × (Nat → Int32) × (Nat → Int32) × (Nat → Int32) × (Nat → Int32) × (Nat → Int32) × (Nat → Int32) × (Nat → Int32) × (Nat → Int32) × (Nat → Int32) × (Nat → Int64) × (Nat → Int32) × (Nat → Int32) × (Nat → Int32) × (Nat → Int32) × (Nat → Int32) × (Nat → Int32) × (Nat → Int32))
  | 0, x4_34, x5_34, f_ruleNow_34, f_fell_34, f_went_34, f_cost_34, f_isFutile_34, a_stepOf_34, a_sizeOf_34, a_trainOf_34, a_carOf_34, a_placeOf_34, a_ageOf_34, a_markOf_34, a_linkTo_34, a_rootTo_34, a_keptMany_34, a_keptRow_34, a_stack_34, a_asked_34, a_newPlace_34, a_isMoved_34, a_isStaying_34, a_stayTrain_34, a_isLeft_34, a_manyBy_34 => none
  | k34 + 1, x4_34, x5_34, f_ruleNow_34, f_fell_34, f_went_34, f_cost_34, f_isFutile_34, a_stepOf_34, a_sizeOf_34, a_trainOf_34, a_carOf_34, a_placeOf_34, a_ageOf_34, a_markOf_34, a_linkTo_34, a_rootTo_34, a_keptMany_34, a_keptRow_34, a_stack_34, a_asked_34, a_newPlace_34, a_isMoved_34, a_isStaying_34, a_stayTrain_34, a_isLeft_34, a_manyBy_34 =>
    if xinb f_bank 2 = true then
      if (a_unitsTold f_bank.toNatClampNeg) < x5_34 then
        some (((-1) : Int32), f_ruleNow_34, f_fell_34, f_went_34, f_cost_34, f_isFutile_34, a_stepOf_34, a_sizeOf_34, a_trainOf_34, a_carOf_34, a_placeOf_34, a_ageOf_34, a_markOf_34, a_linkTo_34, a_rootTo_34, a_keptMany_34, a_keptRow_34, a_stack_34, a_asked_34, a_newPlace_34, a_isMoved_34, a_isStaying_34, a_stayTrain_34, a_isLeft_34, a_manyBy_34)
      else
        if xinb x5_34 100 = true then
          if (a_isLeft_34 x5_34.toNatClampNeg) = 1 then
            if x4_34 = v_k then
              some (x5_34, f_ruleNow_34, f_fell_34, f_went_34, f_cost_34, f_isFutile_34, a_stepOf_34, a_sizeOf_34, a_trainOf_34, a_carOf_34, a_placeOf_34, a_ageOf_34, a_markOf_34, a_linkTo_34, a_rootTo_34, a_keptMany_34, a_keptRow_34, a_stack_34, a_asked_34, a_newPlace_34, a_isMoved_34, a_isStaying_34, a_stayTrain_34, a_isLeft_34, a_manyBy_34)
            else
              mX12_sizes_34 v_k f_bank a_unitsTold k34 (x4_34 + (a_isLeft_34 x5_34.toNatClampNeg)) (x5_34 + 1) f_ruleNow_34 f_fell_34 f_went_34 f_cost_34 f_isFutile_34 a_stepOf_34 a_sizeOf_34 a_trainOf_34 a_carOf_34 a_placeOf_34 a_ageOf_34 a_markOf_34 a_linkTo_34 a_rootTo_34 a_keptMany_34 a_keptRow_34 a_stack_34 a_asked_34 a_newPlace_34 a_isMoved_34 a_isStaying_34 a_stayTrain_34 a_isLeft_34 a_manyBy_34
          else
            mX12_sizes_34 v_k f_bank a_unitsTold k34 (x4_34 + (a_isLeft_34 x5_34.toNatClampNeg)) (x5_34 + 1) f_ruleNow_34 f_fell_34 f_went_34 f_cost_34 f_isFutile_34 a_stepOf_34 a_sizeOf_34 a_trainOf_34 a_carOf_34 a_placeOf_34 a_ageOf_34 a_markOf_34 a_linkTo_34 a_rootTo_34 a_keptMany_34 a_keptRow_34 a_stack_34 a_asked_34 a_newPlace_34 a_isMoved_34 a_isStaying_34 a_stayTrain_34 a_isLeft_34 a_manyBy_34
        else none
    else none
def mX12_sizes (v_thing : Int32) (v_k : Int32) (f_bank : Int32) (f_isHeap : Bool) (f_ruleNow : Int32) (f_fell : Int32) (f_went : Int32) (f_cost : Int32) (f_isFutile : Bool) (f_metMany : Int32) (a_unitsTold : Nat → Int32) (a_sumFrom : Nat → Int32) (a_sumBehind : Nat → Int32) (a_codeSort : Nat → Int32) (a_codeValue : Nat → Int32) (a_stepOf : Nat → Int32) (a_sizeOf : Nat → Int32) (a_trainOf : Nat → Int32) (a_carOf : Nat → Int32) (a_placeOf : Nat → Int32) (a_ageOf : Nat → Int32) (a_markOf : Nat → Int32) (a_linkTo : Nat → Int32) (a_rootTo : Nat → Int32) (a_keptMany : Nat → Int32) (a_keptRow : Nat → Int32) (a_stack : Nat → Int64) (a_asked : Nat → Int32) (a_newPlace : Nat → Int32) (a_isMoved : Nat → Int32) (a_isStaying : Nat → Int32) (a_stayTrain : Nat → Int32) (a_metSteps : Nat → Int32) (a_metWhat : Nat → Int32) (a_metNumber : Nat → Int32) (a_isLeft : Nat → Int32) (a_manyBy : Nat → Int32) : Option (Int32 × Int32 × Int32 × Int32 × Int32 × Bool × (Nat → Int32) × (Nat → Int32) × (Nat → Int32) × (Nat → Int32) × (Nat → Int32) × (Nat → Int32) × (Nat → Int32) × (Nat → Int32) × (Nat → Int32) × (Nat → Int32) × (Nat → Int32) × (Nat → Int64) × (Nat → Int32) × (Nat → Int32) × (Nat → Int32) × (Nat → Int32) × (Nat → Int32) × (Nat → Int32) × (Nat → Int32)) :=
  (mX12_isThing v_thing a_sizeOf).bind (fun q1 =>
    if q1 = true then
      if v_k < (-1) then
        some (((-1) : Int32), f_ruleNow, f_fell, f_went, f_cost, f_isFutile, a_stepOf, a_sizeOf, a_trainOf, a_carOf, a_placeOf, a_ageOf, a_markOf, a_linkTo, a_rootTo, a_keptMany, a_keptRow, a_stack, a_asked, a_newPlace, a_isMoved, a_isStaying, a_stayTrain, a_isLeft, a_manyBy)
      else
        (mX12_leaves v_thing f_bank f_isHeap f_ruleNow f_fell f_went f_cost f_isFutile f_metMany a_unitsTold a_sumFrom a_sumBehind a_codeSort a_codeValue a_stepOf a_sizeOf a_trainOf a_carOf a_placeOf a_ageOf a_markOf a_linkTo a_rootTo a_keptMany a_keptRow a_stack a_asked a_newPlace a_isMoved a_isStaying a_stayTrain a_metSteps a_metWhat a_metNumber a_isLeft a_manyBy).bind (xu fun q4_1 => xu fun q4_2 => xu fun q4_3 => xu fun q4_4 => xu fun q4_5 => xu fun q4_6 => xu fun q4_7 => xu fun q4_8 => xu fun q4_9 => xu fun q4_10 => xu fun q4_11 => xu fun q4_12 => xu fun q4_13 => xu fun q4_14 => xu fun q4_15 => xu fun q4_16 => xu fun q4_17 => xu fun q4_18 => xu fun q4_19 => xu fun q4_20 => xu fun q4_21 => xu fun q4_22 => xu fun q4_23 => xu fun q4_24 => fun q4_25 =>
          if v_k = (-1) then
            some (q4_1, q4_2, q4_3, q4_4, q4_5, q4_6, q4_7, q4_8, q4_9, q4_10, q4_11, q4_12, q4_13, q4_14, q4_15, q4_16, q4_17, q4_18, q4_19, q4_20, q4_21, q4_22, q4_23, q4_24, q4_25)
          else
            mX12_sizes_34 v_k f_bank a_unitsTold xfuel (0 : Int32) (1 : Int32) q4_2 q4_3 q4_4 q4_5 q4_6 q4_7 q4_8 q4_9 q4_10 q4_11 q4_12 q4_13 q4_14 q4_15 q4_16 q4_17 q4_18 q4_19 q4_20 q4_21 q4_22 q4_23 q4_24 q4_25)
    else
      some (((-1) : Int32), f_ruleNow, f_fell, f_went, f_cost, f_isFutile, a_stepOf, a_sizeOf, a_trainOf, a_carOf, a_placeOf, a_ageOf, a_markOf, a_linkTo, a_rootTo, a_keptMany, a_keptRow, a_stack, a_asked, a_newPlace, a_isMoved, a_isStaying, a_stayTrain, a_isLeft, a_manyBy))
def mX12_mostBy_26 (v_k : Int32) (v_what : Int32) (f_bank : Int32) (a_unitsTold : Nat → Int32) (a_isLeft : Nat → Int32) (a_manyBy : Nat → Int32)  : Nat → Int32 → Int32 → (Nat → Int32) → Option (Int32 × (Nat → Int32))
  | 0, x3_26, x4_26, a_many_26 => none
  | k26 + 1, x3_26, x4_26, a_many_26 =>
    if xinb f_bank 2 = true then
      if (a_unitsTold f_bank.toNatClampNeg) < x4_26 then
        some (x3_26, a_many_26)
      else
        if xinb x4_26 100 = true then
          if (a_isLeft x4_26.toNatClampNeg) = 0 then
            mX12_mostBy_26 v_k v_what f_bank a_unitsTold a_isLeft a_manyBy k26 x3_26 (x4_26 + 1) a_many_26
          else
            if xinb (((63 * x4_26) + (3 * v_k)) + v_what) 6300 = true then
              if xinb (a_manyBy (((63 * x4_26) + (3 * v_k)) + v_what).toNatClampNeg) 41 = true then
                if x3_26 < ((upd a_many_26 (a_manyBy (((63 * x4_26) + (3 * v_k)) + v_what).toNatClampNeg).toNatClampNeg ((a_many_26 (a_manyBy (((63 * x4_26) + (3 * v_k)) + v_what).toNatClampNeg).toNatClampNeg) + 1)) (a_manyBy (((63 * x4_26) + (3 * v_k)) + v_what).toNatClampNeg).toNatClampNeg) then
                  mX12_mostBy_26 v_k v_what f_bank a_unitsTold a_isLeft a_manyBy k26 ((upd a_many_26 (a_manyBy (((63 * x4_26) + (3 * v_k)) + v_what).toNatClampNeg).toNatClampNeg ((a_many_26 (a_manyBy (((63 * x4_26) + (3 * v_k)) + v_what).toNatClampNeg).toNatClampNeg) + 1)) (a_manyBy (((63 * x4_26) + (3 * v_k)) + v_what).toNatClampNeg).toNatClampNeg) (x4_26 + 1) (upd a_many_26 (a_manyBy (((63 * x4_26) + (3 * v_k)) + v_what).toNatClampNeg).toNatClampNeg ((a_many_26 (a_manyBy (((63 * x4_26) + (3 * v_k)) + v_what).toNatClampNeg).toNatClampNeg) + 1))
                else
                  mX12_mostBy_26 v_k v_what f_bank a_unitsTold a_isLeft a_manyBy k26 x3_26 (x4_26 + 1) (upd a_many_26 (a_manyBy (((63 * x4_26) + (3 * v_k)) + v_what).toNatClampNeg).toNatClampNeg ((a_many_26 (a_manyBy (((63 * x4_26) + (3 * v_k)) + v_what).toNatClampNeg).toNatClampNeg) + 1))
              else none
            else none
        else none
    else none
def mX12_mostBy_2 (v_k : Int32) (v_what : Int32) (f_bank : Int32) (a_unitsTold : Nat → Int32) (a_isLeft : Nat → Int32) (a_manyBy : Nat → Int32)  : Nat → Nat → (Nat → Int32) → Option (Int32 × (Nat → Int32))
  | 0, i2, a_many_2 => mX12_mostBy_26 v_k v_what f_bank a_unitsTold a_isLeft a_manyBy xfuel (0 : Int32) (1 : Int32) a_many_2
  | k2 + 1, i2, a_many_2 =>
    mX12_mostBy_2 v_k v_what f_bank a_unitsTold a_isLeft a_manyBy k2 (i2 + 1) (upd a_many_2 (nI i2).toNatClampNeg 0)
def mX12_mostBy (v_k : Int32) (v_what : Int32) (f_bank : Int32) (a_unitsTold : Nat → Int32) (a_isLeft : Nat → Int32) (a_manyBy : Nat → Int32) (a_many : Nat → Int32) : Option (Int32 × (Nat → Int32)) :=
  mX12_mostBy_2 v_k v_what f_bank a_unitsTold a_isLeft a_manyBy 41 0 a_many
