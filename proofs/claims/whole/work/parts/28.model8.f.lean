def mX12_tells_106 (v_what : Int32)  (x4_106 : Int32) (x5_106 : Int32) (f_ruleNow_106 : Int32) (f_fell_106 : Int32) (f_went_106 : Int32) (f_cost_106 : Int32) (f_isFutile_106 : Bool) (a_stepOf_106 : Nat → Int32) (a_sizeOf_106 : Nat → Int32) (a_trainOf_106 : Nat → Int32) (a_carOf_106 : Nat → Int32) (a_placeOf_106 : Nat → Int32) (a_ageOf_106 : Nat → Int32) (a_markOf_106 : Nat → Int32) (a_linkTo_106 : Nat → Int32) (a_rootTo_106 : Nat → Int32) (a_keptMany_106 : Nat → Int32) (a_keptRow_106 : Nat → Int32) (a_stack_106 : Nat → Int64) (a_asked_106 : Nat → Int32) (a_newPlace_106 : Nat → Int32) (a_isMoved_106 : Nat → Int32) (a_isStaying_106 : Nat → Int32) (a_stayTrain_106 : Nat → Int32) (a_isLeft_106 : Nat → Int32) (a_manyBy_106 : Nat → Int32) (a_many_106 : Nat → Int32) : Option (Int32 × Int32 × Int32 × Int32 × Int32 × Bool × (Nat → Int32) × (Nat → Int32) × (Nat → Int32) × (Nat → Int32) × (Nat → Int32) × (Nat → Int32) × (Nat → Int32) × (Nat → Int32) × (Nat → Int32) × (Nat → Int32) × (Nat → Int32) × (Nat → Int64) × (Nat → Int32) × (Nat → Int32) × (Nat → Int32) × (Nat → Int32) × (Nat → Int32) × (Nat → Int32) × (Nat → Int32) × (Nat → Int32)) :=
  if x4_106 = (-1) then
    some (((-1) : Int32), f_ruleNow_106, f_fell_106, f_went_106, f_cost_106, f_isFutile_106, a_stepOf_106, a_sizeOf_106, a_trainOf_106, a_carOf_106, a_placeOf_106, a_ageOf_106, a_markOf_106, a_linkTo_106, a_rootTo_106, a_keptMany_106, a_keptRow_106, a_stack_106, a_asked_106, a_newPlace_106, a_isMoved_106, a_isStaying_106, a_stayTrain_106, a_isLeft_106, a_manyBy_106, a_many_106)
  else
    if v_what = 0 then
      some (x4_106 / 3, f_ruleNow_106, f_fell_106, f_went_106, f_cost_106, f_isFutile_106, a_stepOf_106, a_sizeOf_106, a_trainOf_106, a_carOf_106, a_placeOf_106, a_ageOf_106, a_markOf_106, a_linkTo_106, a_rootTo_106, a_keptMany_106, a_keptRow_106, a_stack_106, a_asked_106, a_newPlace_106, a_isMoved_106, a_isStaying_106, a_stayTrain_106, a_isLeft_106, a_manyBy_106, a_many_106)
    else
      if v_what = 1 then
        some (x4_106 - x4_106 / 3 * 3, f_ruleNow_106, f_fell_106, f_went_106, f_cost_106, f_isFutile_106, a_stepOf_106, a_sizeOf_106, a_trainOf_106, a_carOf_106, a_placeOf_106, a_ageOf_106, a_markOf_106, a_linkTo_106, a_rootTo_106, a_keptMany_106, a_keptRow_106, a_stack_106, a_asked_106, a_newPlace_106, a_isMoved_106, a_isStaying_106, a_stayTrain_106, a_isLeft_106, a_manyBy_106, a_many_106)
      else
        some (x5_106, f_ruleNow_106, f_fell_106, f_went_106, f_cost_106, f_isFutile_106, a_stepOf_106, a_sizeOf_106, a_trainOf_106, a_carOf_106, a_placeOf_106, a_ageOf_106, a_markOf_106, a_linkTo_106, a_rootTo_106, a_keptMany_106, a_keptRow_106, a_stack_106, a_asked_106, a_newPlace_106, a_isMoved_106, a_isStaying_106, a_stayTrain_106, a_isLeft_106, a_manyBy_106, a_many_106)
def mX12_tells_55 (f_bank : Int32) (a_unitsTold : Nat → Int32) (a_ageOf_36 : Nat → Int32) (a_asked_36 : Nat → Int32) (a_carOf_36 : Nat → Int32) (a_isLeft_36 : Nat → Int32) (a_isMoved_36 : Nat → Int32) (a_isStaying_36 : Nat → Int32) (a_keptMany_36 : Nat → Int32) (a_keptRow_36 : Nat → Int32) (a_linkTo_36 : Nat → Int32) (a_manyBy_36 : Nat → Int32) (a_markOf_36 : Nat → Int32) (a_newPlace_36 : Nat → Int32) (a_placeOf_36 : Nat → Int32) (a_rootTo_36 : Nat → Int32) (a_sizeOf_36 : Nat → Int32) (a_stack_36 : Nat → Int64) (a_stayTrain_36 : Nat → Int32) (a_stepOf_36 : Nat → Int32) (a_trainOf_36 : Nat → Int32) (f_cost_36 : Int32) (f_fell_36 : Int32) (f_isFutile_36 : Bool) (f_ruleNow_36 : Int32) (f_went_36 : Int32) (x3_36 : Int32) (x6_36 : Int32) (K36 : Int32 → Int32 → Int32 → Int32 → Int32 → Int32 → Int32 → Int32 → Bool → (Nat → Int32) → (Nat → Int32) → (Nat → Int32) → (Nat → Int32) → (Nat → Int32) → (Nat → Int32) → (Nat → Int32) → (Nat → Int32) → (Nat → Int32) → (Nat → Int32) → (Nat → Int32) → (Nat → Int64) → (Nat → Int32) → (Nat → Int32) → (Nat → Int32) → (Nat → Int32) → (Nat → Int32) → (Nat → Int32) → (Nat → Int32) → (Nat → Int32) → Option (Int32 × Int32 × Int32 × Int32 × Int32 × Bool × (Nat → Int32) × (Nat → Int32) × (Nat → Int32) × (Nat → Int32) × (Nat → Int32) × (Nat → Int32) × (Nat → Int32) × (Nat → Int32) × (Nat → Int32) × (Nat → Int32) × (Nat → Int32) × (Nat → Int64) × (Nat → Int32) × (Nat → Int32) × (Nat → Int32) × (Nat → Int32) × (Nat → Int32) × (Nat → Int32) × (Nat → Int32) × (Nat → Int32))) : Nat → Nat → Int32 → Int32 → (Nat → Int32) → Option (Int32 × Int32 × Int32 × Int32 × Int32 × Bool × (Nat → Int32) × (Nat → Int32) × (Nat → Int32) × (Nat → Int32) × (Nat → Int32) × (Nat → Int32) × (Nat → Int32) × (Nat → Int32) × (Nat → Int32) × (Nat → Int32) × (Nat → Int32) × (Nat → Int64) × (Nat → Int32) × (Nat → Int32) × (Nat → Int32) × (Nat → Int32) × (Nat → Int32) × (Nat → Int32) × (Nat → Int32) × (Nat → Int32))
  | 0, i55, x4_55, x5_55, a_many_55 => K36 x3_36 x4_55 x5_55 (x6_36 + 1) f_ruleNow_36 f_fell_36 f_went_36 f_cost_36 f_isFutile_36 a_stepOf_36 a_sizeOf_36 a_trainOf_36 a_carOf_36 a_placeOf_36 a_ageOf_36 a_markOf_36 a_linkTo_36 a_rootTo_36 a_keptMany_36 a_keptRow_36 a_stack_36 a_asked_36 a_newPlace_36 a_isMoved_36 a_isStaying_36 a_stayTrain_36 a_isLeft_36 a_manyBy_36 a_many_55
  | k55 + 1, i55, x4_55, x5_55, a_many_55 =>
    (mX12_mostBy x6_36 (nI i55) f_bank a_unitsTold a_isLeft_36 a_manyBy_36 a_many_55).bind (xu fun q7_1 => fun q7_2 =>
      if q7_1 < x5_55 then
        mX12_tells_55 f_bank a_unitsTold a_ageOf_36 a_asked_36 a_carOf_36 a_isLeft_36 a_isMoved_36 a_isStaying_36 a_keptMany_36 a_keptRow_36 a_linkTo_36 a_manyBy_36 a_markOf_36 a_newPlace_36 a_placeOf_36 a_rootTo_36 a_sizeOf_36 a_stack_36 a_stayTrain_36 a_stepOf_36 a_trainOf_36 f_cost_36 f_fell_36 f_isFutile_36 f_ruleNow_36 f_went_36 x3_36 x6_36 K36 k55 (i55 + 1) ((3 * x6_36) + (nI i55)) q7_1 q7_2
      else
        mX12_tells_55 f_bank a_unitsTold a_ageOf_36 a_asked_36 a_carOf_36 a_isLeft_36 a_isMoved_36 a_isStaying_36 a_keptMany_36 a_keptRow_36 a_linkTo_36 a_manyBy_36 a_markOf_36 a_newPlace_36 a_placeOf_36 a_rootTo_36 a_sizeOf_36 a_stack_36 a_stayTrain_36 a_stepOf_36 a_trainOf_36 f_cost_36 f_fell_36 f_isFutile_36 f_ruleNow_36 f_went_36 x3_36 x6_36 K36 k55 (i55 + 1) x4_55 x5_55 q7_2)
def mX12_tells_36 (v_what : Int32) (f_bank : Int32) (f_isHeap : Bool) (a_unitsTold : Nat → Int32)  : Nat → Int32 → Int32 → Int32 → Int32 → Int32 → Int32 → Int32 → Int32 → Bool → (Nat → Int32) → (Nat → Int32) → (Nat → Int32) → (Nat → Int32) → (Nat → Int32) → (Nat → Int32) → (Nat → Int32) → (Nat → Int32) → (Nat → Int32) → (Nat → Int32) → (Nat → Int32) → (Nat → Int64) → (Nat → Int32) → (Nat → Int32) → (Nat → Int32) → (Nat → Int32) → (Nat → Int32) → (Nat → Int32) → (Nat → Int32) → (Nat → Int32) → Option (Int32 × Int32 × Int32 × Int32 × Int32 × Bool × (Nat → Int32) × (Nat → Int32) × (Nat → Int32) × (Nat → Int32) × (Nat → Int32) × (Nat → Int32) × (Nat → Int32) × (Nat → Int32) × (Nat → Int32) × (Nat → Int32) × (Nat → Int32) × (Nat → Int64) × (Nat → Int32) × (Nat → Int32) × (Nat → Int32) × (Nat → Int32) × (Nat → Int32) × (Nat → Int32) × (Nat → Int32) × (Nat → Int32))
  | 0, x3_36, x4_36, x5_36, x6_36, f_ruleNow_36, f_fell_36, f_went_36, f_cost_36, f_isFutile_36, a_stepOf_36, a_sizeOf_36, a_trainOf_36, a_carOf_36, a_placeOf_36, a_ageOf_36, a_markOf_36, a_linkTo_36, a_rootTo_36, a_keptMany_36, a_keptRow_36, a_stack_36, a_asked_36, a_newPlace_36, a_isMoved_36, a_isStaying_36, a_stayTrain_36, a_isLeft_36, a_manyBy_36, a_many_36 => none
  | k36 + 1, x3_36, x4_36, x5_36, x6_36, f_ruleNow_36, f_fell_36, f_went_36, f_cost_36, f_isFutile_36, a_stepOf_36, a_sizeOf_36, a_trainOf_36, a_carOf_36, a_placeOf_36, a_ageOf_36, a_markOf_36, a_linkTo_36, a_rootTo_36, a_keptMany_36, a_keptRow_36, a_stack_36, a_asked_36, a_newPlace_36, a_isMoved_36, a_isStaying_36, a_stayTrain_36, a_isLeft_36, a_manyBy_36, a_many_36 =>
    if (mX12_isAhead x6_36 (1 : Int32) (20 : Int32) f_isHeap a_stepOf_36) = true then
      if 0 < x3_36 then
        mX12_tells_55 f_bank a_unitsTold a_ageOf_36 a_asked_36 a_carOf_36 a_isLeft_36 a_isMoved_36 a_isStaying_36 a_keptMany_36 a_keptRow_36 a_linkTo_36 a_manyBy_36 a_markOf_36 a_newPlace_36 a_placeOf_36 a_rootTo_36 a_sizeOf_36 a_stack_36 a_stayTrain_36 a_stepOf_36 a_trainOf_36 f_cost_36 f_fell_36 f_isFutile_36 f_ruleNow_36 f_went_36 x3_36 x6_36 (fun zx3_36 zx4_36 zx5_36 zx6_36 zf_ruleNow_36 zf_fell_36 zf_went_36 zf_cost_36 zf_isFutile_36 za_stepOf_36 za_sizeOf_36 za_trainOf_36 za_carOf_36 za_placeOf_36 za_ageOf_36 za_markOf_36 za_linkTo_36 za_rootTo_36 za_keptMany_36 za_keptRow_36 za_stack_36 za_asked_36 za_newPlace_36 za_isMoved_36 za_isStaying_36 za_stayTrain_36 za_isLeft_36 za_manyBy_36 za_many_36 => mX12_tells_36 v_what f_bank f_isHeap a_unitsTold k36 zx3_36 zx4_36 zx5_36 zx6_36 zf_ruleNow_36 zf_fell_36 zf_went_36 zf_cost_36 zf_isFutile_36 za_stepOf_36 za_sizeOf_36 za_trainOf_36 za_carOf_36 za_placeOf_36 za_ageOf_36 za_markOf_36 za_linkTo_36 za_rootTo_36 za_keptMany_36 za_keptRow_36 za_stack_36 za_asked_36 za_newPlace_36 za_isMoved_36 za_isStaying_36 za_stayTrain_36 za_isLeft_36 za_manyBy_36 za_many_36) 3 0 x4_36 x5_36 a_many_36
      else
        mX12_tells_106 v_what x4_36 x5_36 f_ruleNow_36 f_fell_36 f_went_36 f_cost_36 f_isFutile_36 a_stepOf_36 a_sizeOf_36 a_trainOf_36 a_carOf_36 a_placeOf_36 a_ageOf_36 a_markOf_36 a_linkTo_36 a_rootTo_36 a_keptMany_36 a_keptRow_36 a_stack_36 a_asked_36 a_newPlace_36 a_isMoved_36 a_isStaying_36 a_stayTrain_36 a_isLeft_36 a_manyBy_36 a_many_36
    else
      mX12_tells_106 v_what x4_36 x5_36 f_ruleNow_36 f_fell_36 f_went_36 f_cost_36 f_isFutile_36 a_stepOf_36 a_sizeOf_36 a_trainOf_36 a_carOf_36 a_placeOf_36 a_ageOf_36 a_markOf_36 a_linkTo_36 a_rootTo_36 a_keptMany_36 a_keptRow_36 a_stack_36 a_asked_36 a_newPlace_36 a_isMoved_36 a_isStaying_36 a_stayTrain_36 a_isLeft_36 a_manyBy_36 a_many_36
def mX12_tells (v_thing : Int32) (v_what : Int32) (f_bank : Int32) (f_isHeap : Bool) (f_ruleNow : Int32) (f_fell : Int32) (f_went : Int32) (f_cost : Int32) (f_isFutile : Bool) (f_metMany : Int32) (a_unitsTold : Nat → Int32) (a_sumFrom : Nat → Int32) (a_sumBehind : Nat → Int32) (a_codeSort : Nat → Int32) (a_codeValue : Nat → Int32) (a_stepOf : Nat → Int32) (a_sizeOf : Nat → Int32) (a_trainOf : Nat → Int32) (a_carOf : Nat → Int32) (a_placeOf : Nat → Int32) (a_ageOf : Nat → Int32) (a_markOf : Nat → Int32) (a_linkTo : Nat → Int32) (a_rootTo : Nat → Int32) (a_keptMany : Nat → Int32) (a_keptRow : Nat → Int32) (a_stack : Nat → Int64) (a_asked : Nat → Int32) (a_newPlace : Nat → Int32) (a_isMoved : Nat → Int32) (a_isStaying : Nat → Int32) (a_stayTrain : Nat → Int32) (a_metSteps : Nat → Int32) (a_metWhat : Nat → Int32) (a_metNumber : Nat → Int32) (a_isLeft : Nat → Int32) (a_manyBy : Nat → Int32) (a_many : Nat → Int32) : Option (Int32 × Int32 × Int32 × Int32 × Int32 × Bool × (Nat → Int32) × (Nat → Int32) × (Nat → Int32) × (Nat → Int32) × (Nat → Int32) × (Nat → Int32) × (Nat → Int32) × (Nat → Int32) × (Nat → Int32) × (Nat → Int32) × (Nat → Int32) × (Nat → Int64) × (Nat → Int32) × (Nat → Int32) × (Nat → Int32) × (Nat → Int32) × (Nat → Int32) × (Nat → Int32) × (Nat → Int32) × (Nat → Int32)) :=
  (mX12_isThing v_thing a_sizeOf).bind (fun q1 =>
    if q1 = true then
      if (mX12_is v_what (0 : Int32) (2 : Int32)) = true then
        (mX12_leaves v_thing f_bank f_isHeap f_ruleNow f_fell f_went f_cost f_isFutile f_metMany a_unitsTold a_sumFrom a_sumBehind a_codeSort a_codeValue a_stepOf a_sizeOf a_trainOf a_carOf a_placeOf a_ageOf a_markOf a_linkTo a_rootTo a_keptMany a_keptRow a_stack a_asked a_newPlace a_isMoved a_isStaying a_stayTrain a_metSteps a_metWhat a_metNumber a_isLeft a_manyBy).bind (xu fun q4_1 => xu fun q4_2 => xu fun q4_3 => xu fun q4_4 => xu fun q4_5 => xu fun q4_6 => xu fun q4_7 => xu fun q4_8 => xu fun q4_9 => xu fun q4_10 => xu fun q4_11 => xu fun q4_12 => xu fun q4_13 => xu fun q4_14 => xu fun q4_15 => xu fun q4_16 => xu fun q4_17 => xu fun q4_18 => xu fun q4_19 => xu fun q4_20 => xu fun q4_21 => xu fun q4_22 => xu fun q4_23 => xu fun q4_24 => fun q4_25 =>
          mX12_tells_36 v_what f_bank f_isHeap a_unitsTold xfuel q4_1 ((-1) : Int32) (100000000 : Int32) (1 : Int32) q4_2 q4_3 q4_4 q4_5 q4_6 q4_7 q4_8 q4_9 q4_10 q4_11 q4_12 q4_13 q4_14 q4_15 q4_16 q4_17 q4_18 q4_19 q4_20 q4_21 q4_22 q4_23 q4_24 q4_25 a_many)
      else
        some (((-1) : Int32), f_ruleNow, f_fell, f_went, f_cost, f_isFutile, a_stepOf, a_sizeOf, a_trainOf, a_carOf, a_placeOf, a_ageOf, a_markOf, a_linkTo, a_rootTo, a_keptMany, a_keptRow, a_stack, a_asked, a_newPlace, a_isMoved, a_isStaying, a_stayTrain, a_isLeft, a_manyBy, a_many)
    else
      some (((-1) : Int32), f_ruleNow, f_fell, f_went, f_cost, f_isFutile, a_stepOf, a_sizeOf, a_trainOf, a_carOf, a_placeOf, a_ageOf, a_markOf, a_linkTo, a_rootTo, a_keptMany, a_keptRow, a_stack, a_asked, a_newPlace, a_isMoved, a_isStaying, a_stayTrain, a_isLeft, a_manyBy, a_many))
def mX12_steps_25 (v_n : Int32) (f_bank : Int32) (a_unitsTold : Nat → Int32) (a_sumFrom : Nat → Int32) (a_sumBehind : Nat → Int32) (a_codeSort : Nat → Int32) (a_codeValue : Nat → Int32) (a_refused : Nat → Int32)  : Nat → Int32 → Int32 → Int32 → Int32 → Int32 → Int32 → Int32 → Int32 → Bool → (Nat → Int32) → (Nat → Int32) → (Nat → Int32) → (Nat → Int32) → (Nat → Int32) → (Nat → Int32) → (Nat → Int32) → (Nat → Int32) → (Nat → Int32) → (Nat → Int32) → (Nat → Int32) → (Nat → Int64) → (Nat → Int32) → (Nat → Int32) → (Nat → Int32) → (Nat → Int32) → (Nat → Int32) → Option (Int32 × Int32 × Int32 × Int32 × Int32 × Int32 × Int32 × Bool × (Nat → Int32) × (Nat → Int32) × (Nat → Int32) × (Nat → Int32) × (Nat → Int32) × (Nat → Int32) × (Nat → Int32) × (Nat → Int32) × (Nat → Int32) × (Nat → Int32) × (Nat → Int32) × (Nat → Int32) × (Nat → Int64) × (Nat → Int32) × (Nat → Int32) × (Nat → Int32) × (Nat → Int32) × (Nat → Int32))
  | 0, x2_25, x3_25, f_undoFirst_25, f_undos_25, f_ruleNow_25, f_fell_25, f_went_25, f_cost_25, f_isFutile_25, a_stepOf_25, a_sizeOf_25, a_trainOf_25, a_carOf_25, a_placeOf_25, a_ageOf_25, a_markOf_25, a_linkTo_25, a_rootTo_25, a_keptMany_25, a_keptRow_25, a_stack_25, a_asked_25, a_newPlace_25, a_isMoved_25, a_isStaying_25, a_stayTrain_25 => none
  | k25 + 1, x2_25, x3_25, f_undoFirst_25, f_undos_25, f_ruleNow_25, f_fell_25, f_went_25, f_cost_25, f_isFutile_25, a_stepOf_25, a_sizeOf_25, a_trainOf_25, a_carOf_25, a_placeOf_25, a_ageOf_25, a_markOf_25, a_linkTo_25, a_rootTo_25, a_keptMany_25, a_keptRow_25, a_stack_25, a_asked_25, a_newPlace_25, a_isMoved_25, a_isStaying_25, a_stayTrain_25 =>
    if x3_25 < v_n then
      (mX12_ticks (0 : Int32) f_bank f_ruleNow_25 a_unitsTold a_sumFrom a_sumBehind a_codeSort a_codeValue a_stepOf_25 a_sizeOf_25 a_trainOf_25 a_carOf_25 a_placeOf_25 a_ageOf_25 a_markOf_25 a_linkTo_25 a_rootTo_25 a_keptMany_25 a_keptRow_25 a_stack_25 a_asked_25 a_newPlace_25 a_isMoved_25 a_isStaying_25 a_stayTrain_25).bind (xu fun q5_1 => xu fun q5_2 => xu fun q5_3 => xu fun q5_4 => xu fun q5_5 => xu fun q5_6 => xu fun q5_7 => xu fun q5_8 => xu fun q5_9 => xu fun q5_10 => xu fun q5_11 => xu fun q5_12 => xu fun q5_13 => xu fun q5_14 => xu fun q5_15 => xu fun q5_16 => xu fun q5_17 => xu fun q5_18 => xu fun q5_19 => xu fun q5_20 => fun q5_21 =>
        mX12_steps_25 v_n f_bank a_unitsTold a_sumFrom a_sumBehind a_codeSort a_codeValue a_refused k25 (x2_25 + q5_2) (x3_25 + 1) f_undoFirst_25 f_undos_25 q5_1 q5_2 q5_3 q5_4 q5_5 q5_6 q5_7 q5_8 q5_9 q5_10 q5_11 q5_12 q5_13 a_rootTo_25 q5_14 q5_15 q5_16 q5_17 q5_18 q5_19 q5_20 q5_21)
    else
      some (x2_25, f_undoFirst_25, f_undos_25, f_ruleNow_25, f_fell_25, f_went_25, f_cost_25, f_isFutile_25, a_refused, a_stepOf_25, a_sizeOf_25, a_trainOf_25, a_carOf_25, a_placeOf_25, a_ageOf_25, a_markOf_25, a_linkTo_25, a_rootTo_25, a_keptMany_25, a_keptRow_25, a_stack_25, a_asked_25, a_newPlace_25, a_isMoved_25, a_isStaying_25, a_stayTrain_25)
def mX12_steps (v_n : Int32) (f_bank : Int32) (f_isHeap : Bool) (f_undoFirst : Int32) (f_undos : Int32) (f_ruleNow : Int32) (f_fell : Int32) (f_went : Int32) (f_cost : Int32) (f_isFutile : Bool) (a_unitsTold : Nat → Int32) (a_sumFrom : Nat → Int32) (a_sumBehind : Nat → Int32) (a_codeSort : Nat → Int32) (a_codeValue : Nat → Int32) (a_refused : Nat → Int32) (a_stepOf : Nat → Int32) (a_sizeOf : Nat → Int32) (a_trainOf : Nat → Int32) (a_carOf : Nat → Int32) (a_placeOf : Nat → Int32) (a_ageOf : Nat → Int32) (a_markOf : Nat → Int32) (a_linkTo : Nat → Int32) (a_rootTo : Nat → Int32) (a_keptMany : Nat → Int32) (a_keptRow : Nat → Int32) (a_stack : Nat → Int64) (a_asked : Nat → Int32) (a_newPlace : Nat → Int32) (a_isMoved : Nat → Int32) (a_isStaying : Nat → Int32) (a_stayTrain : Nat → Int32) : Option (Int32 × Int32 × Int32 × Int32 × Int32 × Int32 × Int32 × Bool × (Nat → Int32) × (Nat → Int32) × (Nat → Int32) × (Nat → Int32) × (Nat → Int32) × (Nat → Int32) × (Nat → Int32) × (Nat → Int32) × (Nat → Int32) × (Nat → Int32) × (Nat → Int32) × (Nat → Int32) × (Nat → Int64) × (Nat → Int32) × (Nat → Int32) × (Nat → Int32) × (Nat → Int32) × (Nat → Int32)) :=
  if (mX12_isAhead v_n (1 : Int32) (60 : Int32) f_isHeap a_stepOf) = true then
    (mX12_keeps f_undoFirst f_undos a_stepOf a_sizeOf a_trainOf a_carOf a_placeOf a_ageOf a_markOf a_linkTo a_rootTo a_keptMany a_keptRow).bind (xu fun q2_1 => xu fun q2_2 => xu fun q2_3 => xu fun q2_4 => xu fun q2_5 => xu fun q2_6 => xu fun q2_7 => xu fun q2_8 => xu fun q2_9 => xu fun q2_10 => xu fun q2_11 => xu fun q2_12 => fun q2_13 =>
      mX12_steps_25 v_n f_bank a_unitsTold a_sumFrom a_sumBehind a_codeSort a_codeValue a_refused xfuel (0 : Int32) (0 : Int32) q2_1 q2_2 f_ruleNow f_fell f_went f_cost f_isFutile q2_3 q2_4 q2_5 q2_6 q2_7 q2_8 q2_9 q2_10 q2_11 q2_12 q2_13 a_stack a_asked a_newPlace a_isMoved a_isStaying a_stayTrain)
  else
    (mX12_refuses (2 : Int32) a_refused).bind (xu fun q3_1 => fun q3_2 =>
      some (q3_1, f_undoFirst, f_undos, f_ruleNow, f_fell, f_went, f_cost, f_isFutile, q3_2, a_stepOf, a_sizeOf, a_trainOf, a_carOf, a_placeOf, a_ageOf, a_markOf, a_linkTo, a_rootTo, a_keptMany, a_keptRow, a_stack, a_asked, a_newPlace, a_isMoved, a_isStaying, a_stayTrain))
def mX12_draw (v_m : Int32) (f_seeds : Int64) : Option (Int32 × Int64) :=
  if v_m.toInt64 = 0 then none else
    some (((((((1103515245 : Int64) * f_seeds) + 12345) - (((1103515245 : Int64) * f_seeds) + 12345) / 2147483648 * 2147483648) / 64) - (((((1103515245 : Int64) * f_seeds) + 12345) - (((1103515245 : Int64) * f_seeds) + 12345) / 2147483648 * 2147483648) / 64) / v_m.toInt64 * v_m.toInt64).toInt32, (((1103515245 : Int64) * f_seeds) + 12345) - (((1103515245 : Int64) * f_seeds) + 12345) / 2147483648 * 2147483648)
def mX12_churns (v_n : Int32) (f_seeds : Int64) (a_linkTo : Nat → Int32) (a_living : Nat → Int32) : Option (Int64 × (Nat → Int32)) :=
  (mX12_draw v_n f_seeds).bind (xu fun q1_1 => fun q1_2 =>
    if xinb q1_1 40 = true then
      (mX12_draw (4 : Int32) q1_2).bind (xu fun q3_1 => fun q3_2 =>
        (mX12_draw v_n q3_2).bind (xu fun q4_1 => fun q4_2 =>
          if xinb q4_1 40 = true then
            if xinb ((4 * (a_living q1_1.toNatClampNeg)) + q3_1) 3520 = true then
              some (q4_2, upd a_linkTo ((4 * (a_living q1_1.toNatClampNeg)) + q3_1).toNatClampNeg (a_living q4_1.toNatClampNeg))
            else none
          else none))
    else none)
def mX12_chance_25 (v_n : Int32) (f_bank : Int32) (a_unitsTold : Nat → Int32) (a_churnTold : Nat → Int32) (a_sumFrom : Nat → Int32) (a_sumBehind : Nat → Int32) (a_codeSort : Nat → Int32) (a_codeValue : Nat → Int32) (a_refused : Nat → Int32)  : Nat → Int32 → Int32 → Int32 → Int32 → Int64 → Int32 → Int32 → Int32 → Int32 → Bool → (Nat → Int32) → (Nat → Int32) → (Nat → Int32) → (Nat → Int32) → (Nat → Int32) → (Nat → Int32) → (Nat → Int32) → (Nat → Int32) → (Nat → Int32) → (Nat → Int32) → (Nat → Int32) → (Nat → Int64) → (Nat → Int32) → (Nat → Int32) → (Nat → Int32) → (Nat → Int32) → (Nat → Int32) → (Nat → Int32) → (Nat → Int32) → (Nat → Int32) → Option (Int32 × Int32 × Int32 × Int64 × Int32 × Int32 × Int32 × Int32 × Bool × (Nat → Int32) × (Nat → Int32) × (Nat → Int32) × (Nat → Int32) × (Nat → Int32) × (Nat → Int32) × (Nat → Int32) × (Nat → Int32) × (Nat → Int32) × (Nat → Int32) × (Nat → Int32) × (Nat → Int32) × (Nat → Int64) × (Nat → Int32) × (Nat → Int32) × (Nat → Int32) × (Nat → Int32) × (Nat → Int32) × (Nat → Int32) × (Nat → Int32) × (Nat → Int32))
  | 0, x2_25, x3_25, f_undoFirst_25, f_undos_25, f_seeds_25, f_ruleNow_25, f_fell_25, f_went_25, f_cost_25, f_isFutile_25, a_stepOf_25, a_sizeOf_25, a_trainOf_25, a_carOf_25, a_placeOf_25, a_ageOf_25, a_markOf_25, a_linkTo_25, a_rootTo_25, a_keptMany_25, a_keptRow_25, a_stack_25, a_asked_25, a_newPlace_25, a_isMoved_25, a_isStaying_25, a_stayTrain_25, a_farOf_25, a_queue_25, a_living_25 => none
  | k25 + 1, x2_25, x3_25, f_undoFirst_25, f_undos_25, f_seeds_25, f_ruleNow_25, f_fell_25, f_went_25, f_cost_25, f_isFutile_25, a_stepOf_25, a_sizeOf_25, a_trainOf_25, a_carOf_25, a_placeOf_25, a_ageOf_25, a_markOf_25, a_linkTo_25, a_rootTo_25, a_keptMany_25, a_keptRow_25, a_stack_25, a_asked_25, a_newPlace_25, a_isMoved_25, a_isStaying_25, a_stayTrain_25, a_farOf_25, a_queue_25, a_living_25 =>
    if x3_25 < v_n then
      (mX12_livings (0 : Int32) a_linkTo_25 a_rootTo_25 a_farOf_25 a_queue_25 a_living_25).bind (xu fun q5_1 => xu fun q5_2 => xu fun q5_3 => fun q5_4 =>
        (mX12_draw (100 : Int32) f_seeds_25).bind (xu fun q6_1 => fun q6_2 =>
          if xinb f_bank 2 = true then
            if q6_1 < (a_churnTold f_bank.toNatClampNeg) then
              if 0 < q5_1 then
                (mX12_churns q5_1 q6_2 a_linkTo_25 q5_4).bind (xu fun q10_1 => fun q10_2 =>
                  (mX12_ticks (0 : Int32) f_bank f_ruleNow_25 a_unitsTold a_sumFrom a_sumBehind a_codeSort a_codeValue a_stepOf_25 a_sizeOf_25 a_trainOf_25 a_carOf_25 a_placeOf_25 a_ageOf_25 a_markOf_25 q10_2 a_rootTo_25 a_keptMany_25 a_keptRow_25 a_stack_25 a_asked_25 a_newPlace_25 a_isMoved_25 a_isStaying_25 a_stayTrain_25).bind (xu fun q11_1 => xu fun q11_2 => xu fun q11_3 => xu fun q11_4 => xu fun q11_5 => xu fun q11_6 => xu fun q11_7 => xu fun q11_8 => xu fun q11_9 => xu fun q11_10 => xu fun q11_11 => xu fun q11_12 => xu fun q11_13 => xu fun q11_14 => xu fun q11_15 => xu fun q11_16 => xu fun q11_17 => xu fun q11_18 => xu fun q11_19 => xu fun q11_20 => fun q11_21 =>
                    mX12_chance_25 v_n f_bank a_unitsTold a_churnTold a_sumFrom a_sumBehind a_codeSort a_codeValue a_refused k25 (x2_25 + 1) (x3_25 + 1) f_undoFirst_25 f_undos_25 q10_1 q11_1 q11_2 q11_3 q11_4 q11_5 q11_6 q11_7 q11_8 q11_9 q11_10 q11_11 q11_12 q11_13 a_rootTo_25 q11_14 q11_15 q11_16 q11_17 q11_18 q11_19 q11_20 q11_21 q5_2 q5_3 q5_4))
              else
                (mX12_ticks (0 : Int32) f_bank f_ruleNow_25 a_unitsTold a_sumFrom a_sumBehind a_codeSort a_codeValue a_stepOf_25 a_sizeOf_25 a_trainOf_25 a_carOf_25 a_placeOf_25 a_ageOf_25 a_markOf_25 a_linkTo_25 a_rootTo_25 a_keptMany_25 a_keptRow_25 a_stack_25 a_asked_25 a_newPlace_25 a_isMoved_25 a_isStaying_25 a_stayTrain_25).bind (xu fun q12_1 => xu fun q12_2 => xu fun q12_3 => xu fun q12_4 => xu fun q12_5 => xu fun q12_6 => xu fun q12_7 => xu fun q12_8 => xu fun q12_9 => xu fun q12_10 => xu fun q12_11 => xu fun q12_12 => xu fun q12_13 => xu fun q12_14 => xu fun q12_15 => xu fun q12_16 => xu fun q12_17 => xu fun q12_18 => xu fun q12_19 => xu fun q12_20 => fun q12_21 =>
                  mX12_chance_25 v_n f_bank a_unitsTold a_churnTold a_sumFrom a_sumBehind a_codeSort a_codeValue a_refused k25 x2_25 (x3_25 + 1) f_undoFirst_25 f_undos_25 q6_2 q12_1 q12_2 q12_3 q12_4 q12_5 q12_6 q12_7 q12_8 q12_9 q12_10 q12_11 q12_12 q12_13 a_rootTo_25 q12_14 q12_15 q12_16 q12_17 q12_18 q12_19 q12_20 q12_21 q5_2 q5_3 q5_4)
            else
              (mX12_ticks (0 : Int32) f_bank f_ruleNow_25 a_unitsTold a_sumFrom a_sumBehind a_codeSort a_codeValue a_stepOf_25 a_sizeOf_25 a_trainOf_25 a_carOf_25 a_placeOf_25 a_ageOf_25 a_markOf_25 a_linkTo_25 a_rootTo_25 a_keptMany_25 a_keptRow_25 a_stack_25 a_asked_25 a_newPlace_25 a_isMoved_25 a_isStaying_25 a_stayTrain_25).bind (xu fun q13_1 => xu fun q13_2 => xu fun q13_3 => xu fun q13_4 => xu fun q13_5 => xu fun q13_6 => xu fun q13_7 => xu fun q13_8 => xu fun q13_9 => xu fun q13_10 => xu fun q13_11 => xu fun q13_12 => xu fun q13_13 => xu fun q13_14 => xu fun q13_15 => xu fun q13_16 => xu fun q13_17 => xu fun q13_18 => xu fun q13_19 => xu fun q13_20 => fun q13_21 =>
                mX12_chance_25 v_n f_bank a_unitsTold a_churnTold a_sumFrom a_sumBehind a_codeSort a_codeValue a_refused k25 x2_25 (x3_25 + 1) f_undoFirst_25 f_undos_25 q6_2 q13_1 q13_2 q13_3 q13_4 q13_5 q13_6 q13_7 q13_8 q13_9 q13_10 q13_11 q13_12 q13_13 a_rootTo_25 q13_14 q13_15 q13_16 q13_17 q13_18 q13_19 q13_20 q13_21 q5_2 q5_3 q5_4)
          else none))
    else
      some (x2_25, f_undoFirst_25, f_undos_25, f_seeds_25, f_ruleNow_25, f_fell_25, f_went_25, f_cost_25, f_isFutile_25, a_refused, a_stepOf_25, a_sizeOf_25, a_trainOf_25, a_carOf_25, a_placeOf_25, a_ageOf_25, a_markOf_25, a_linkTo_25, a_rootTo_25, a_keptMany_25, a_keptRow_25, a_stack_25, a_asked_25, a_newPlace_25, a_isMoved_25, a_isStaying_25, a_stayTrain_25, a_farOf_25, a_queue_25, a_living_25)
def mX12_chance (v_n : Int32) (f_bank : Int32) (f_isHeap : Bool) (f_undoFirst : Int32) (f_undos : Int32) (f_seeds : Int64) (f_ruleNow : Int32) (f_fell : Int32) (f_went : Int32) (f_cost : Int32) (f_isFutile : Bool) (a_unitsTold : Nat → Int32) (a_churnTold : Nat → Int32) (a_sumFrom : Nat → Int32) (a_sumBehind : Nat → Int32) (a_codeSort : Nat → Int32) (a_codeValue : Nat → Int32) (a_refused : Nat → Int32) (a_stepOf : Nat → Int32) (a_sizeOf : Nat → Int32) (a_trainOf : Nat → Int32) (a_carOf : Nat → Int32) (a_placeOf : Nat → Int32) (a_ageOf : Nat → Int32) (a_markOf : Nat → Int32) (a_linkTo : Nat → Int32) (a_rootTo : Nat → Int32) (a_keptMany : Nat → Int32) (a_keptRow : Nat → Int32) (a_stack : Nat → Int64) (a_asked : Nat → Int32) (a_newPlace : Nat → Int32) (a_isMoved : Nat → Int32) (a_isStaying : Nat → Int32) (a_stayTrain : Nat → Int32) (a_farOf : Nat → Int32) (a_queue : Nat → Int32) (a_living : Nat → Int32) : Option (Int32 × Int32 × Int32 × Int64 × Int32 × Int32 × Int32 × Int32 × Bool × (Nat → Int32) × (Nat → Int32) × (Nat → Int32) × (Nat → Int32) × (Nat → Int32) × (Nat → Int32) × (Nat → Int32) × (Nat → Int32) × (Nat → Int32) × (Nat → Int32) × (Nat → Int32) × (Nat → Int32) × (Nat → Int64) × (Nat → Int32) × (Nat → Int32) × (Nat → Int32) × (Nat → Int32) × (Nat → Int32) × (Nat → Int32) × (Nat → Int32) × (Nat → Int32)) :=
  if (mX12_isAhead v_n (1 : Int32) (60 : Int32) f_isHeap a_stepOf) = true then
    (mX12_keeps f_undoFirst f_undos a_stepOf a_sizeOf a_trainOf a_carOf a_placeOf a_ageOf a_markOf a_linkTo a_rootTo a_keptMany a_keptRow).bind (xu fun q2_1 => xu fun q2_2 => xu fun q2_3 => xu fun q2_4 => xu fun q2_5 => xu fun q2_6 => xu fun q2_7 => xu fun q2_8 => xu fun q2_9 => xu fun q2_10 => xu fun q2_11 => xu fun q2_12 => fun q2_13 =>
      mX12_chance_25 v_n f_bank a_unitsTold a_churnTold a_sumFrom a_sumBehind a_codeSort a_codeValue a_refused xfuel (0 : Int32) (0 : Int32) q2_1 q2_2 f_seeds f_ruleNow f_fell f_went f_cost f_isFutile q2_3 q2_4 q2_5 q2_6 q2_7 q2_8 q2_9 q2_10 q2_11 q2_12 q2_13 a_stack a_asked a_newPlace a_isMoved a_isStaying a_stayTrain a_farOf a_queue a_living)
  else
    (mX12_refuses (2 : Int32) a_refused).bind (xu fun q3_1 => fun q3_2 =>
      some (q3_1, f_undoFirst, f_undos, f_seeds, f_ruleNow, f_fell, f_went, f_cost, f_isFutile, q3_2, a_stepOf, a_sizeOf, a_trainOf, a_carOf, a_placeOf, a_ageOf, a_markOf, a_linkTo, a_rootTo, a_keptMany, a_keptRow, a_stack, a_asked, a_newPlace, a_isMoved, a_isStaying, a_stayTrain, a_farOf, a_queue, a_living))
def mX12_isFresh_79 (f_bank : Int32) (a_sumFrom : Nat → Int32) (a_sumBehind : Nat → Int32) (a_codeSort : Nat → Int32) (a_codeValue : Nat → Int32) (a_sizeOf : Nat → Int32) (a_trainOf : Nat → Int32) (a_stack : Nat → Int64)  : Nat → Nat → Int32 → (Nat → Int32) → Option (Bool × (Nat → Int64) × (Nat → Int32))
  | 0, i79, x1_79, a_asked_79 => (mX12_reckons (1 : Int32) f_bank a_sumFrom a_sumBehind a_codeSort a_codeValue a_stack a_asked_79).bind (xu fun q10_1 => fun q10_2 =>
      if q10_1 = (1 : Int64) then
        some (true, q10_2, a_asked_79)
      else
        some (false, q10_2, a_asked_79))
  | k79 + 1, i79, x1_79, a_asked_79 =>
    (mX12_isThere (0 : Int32) (nI i79) a_sizeOf).bind (fun q7 =>
      if q7 = true then
        if (a_trainOf (nI i79).toNatClampNeg) = x1_79 then
          mX12_isFresh_79 f_bank a_sumFrom a_sumBehind a_codeSort a_codeValue a_sizeOf a_trainOf a_stack k79 (i79 + 1) x1_79 (upd a_asked_79 (7 : Int32).toNatClampNeg ((a_asked_79 (7 : Int32).toNatClampNeg) + (a_sizeOf (nI i79).toNatClampNeg)))
        else
          mX12_isFresh_79 f_bank a_sumFrom a_sumBehind a_codeSort a_codeValue a_sizeOf a_trainOf a_stack k79 (i79 + 1) x1_79 (upd a_asked_79 (7 : Int32).toNatClampNeg ((a_asked_79 (7 : Int32).toNatClampNeg) + 0))
      else
        mX12_isFresh_79 f_bank a_sumFrom a_sumBehind a_codeSort a_codeValue a_sizeOf a_trainOf a_stack k79 (i79 + 1) x1_79 (upd a_asked_79 (7 : Int32).toNatClampNeg ((a_asked_79 (7 : Int32).toNatClampNeg) + 0)))
def mX12_isFresh (f_bank : Int32) (a_sumFrom : Nat → Int32) (a_sumBehind : Nat → Int32) (a_codeSort : Nat → Int32) (a_codeValue : Nat → Int32) (a_stepOf : Nat → Int32) (a_sizeOf : Nat → Int32) (a_trainOf : Nat → Int32) (a_carOf : Nat → Int32) (a_stack : Nat → Int64) (a_asked : Nat → Int32) : Option (Bool × (Nat → Int64) × (Nat → Int32)) :=
  (mX12_trainsOf (0 : Int32) a_sizeOf a_trainOf).bind (fun q1 =>
    if (q1 - 1) < 0 then
      some (true, a_stack, a_asked)
    else
      (mX12_carsOf (0 : Int32) (q1 - 1) a_sizeOf a_trainOf a_carOf).bind (fun q3 =>
        (mX12_isTold (1 : Int32) f_bank a_sumFrom).bind (fun q4 =>
          if q4 = true then
            mX12_isFresh_79 f_bank a_sumFrom a_sumBehind a_codeSort a_codeValue a_sizeOf a_trainOf a_stack 40 0 (q1 - 1) (upd (upd (upd (upd a_asked (1 : Int32).toNatClampNeg (a_stepOf (0 : Int32).toNatClampNeg)) (5 : Int32).toNatClampNeg ((q1 - 1) + 1)) (6 : Int32).toNatClampNeg q3) (7 : Int32).toNatClampNeg 0)
          else
            if 3 < q3 then
              some (true, a_stack, a_asked)
            else
              some (false, a_stack, a_asked))))
def mX12_make_93 (v_size : Int32) (v_root : Int32) (f_bank : Int32) (a_unitsTold : Nat → Int32) (a_refused : Nat → Int32)  (x3_93 : Int32) (s0_93 : Int32) (f_undoFirst_93 : Int32) (f_undos_93 : Int32) (a_stepOf_93 : Nat → Int32) (a_sizeOf_93 : Nat → Int32) (a_trainOf_93 : Nat → Int32) (a_carOf_93 : Nat → Int32) (a_placeOf_93 : Nat → Int32) (a_ageOf_93 : Nat → Int32) (a_markOf_93 : Nat → Int32) (a_linkTo_93 : Nat → Int32) (a_rootTo_93 : Nat → Int32) (a_keptMany_93 : Nat → Int32) (a_keptRow_93 : Nat → Int32) (a_stack_93 : Nat → Int64) (a_asked_93 : Nat → Int32) : Option (Int32 × Int32 × Int32 × (Nat → Int32) × (Nat → Int32) × (Nat → Int32) × (Nat → Int32) × (Nat → Int32) × (Nat → Int32) × (Nat → Int32) × (Nat → Int32) × (Nat → Int32) × (Nat → Int32) × (Nat → Int32) × (Nat → Int32) × (Nat → Int64) × (Nat → Int32)) :=
  (mX12_clears (0 : Int32) x3_93 a_sizeOf_93 a_trainOf_93 a_carOf_93 a_placeOf_93 a_ageOf_93 a_markOf_93 a_linkTo_93).bind (xu fun q18_1 => xu fun q18_2 => xu fun q18_3 => xu fun q18_4 => xu fun q18_5 => xu fun q18_6 => fun q18_7 =>
    if xinb x3_93 880 = true then
      (mX12_lays (0 : Int32) x3_93 s0_93 f_bank a_unitsTold (upd q18_1 x3_93.toNatClampNeg v_size) q18_2 q18_3 q18_4).bind (xu fun q20_1 => xu fun q20_2 => fun q20_3 =>
        if xinb v_root 176 = true then
          some (x3_93, f_undoFirst_93, f_undos_93, a_refused, a_stepOf_93, upd q18_1 x3_93.toNatClampNeg v_size, q20_1, q20_2, q20_3, q18_5, q18_6, q18_7, upd a_rootTo_93 v_root.toNatClampNeg x3_93, a_keptMany_93, a_keptRow_93, a_stack_93, a_asked_93)
        else none)
    else none)
def mX12_make_56 (v_size : Int32) (v_root : Int32) (f_bank : Int32) (a_unitsTold : Nat → Int32) (a_sumFrom : Nat → Int32) (a_sumBehind : Nat → Int32) (a_codeSort : Nat → Int32) (a_codeValue : Nat → Int32) (a_refused : Nat → Int32) (a_stack : Nat → Int64) (a_asked : Nat → Int32)  : Nat → Int32 → Int32 → Int32 → (Nat → Int32) → (Nat → Int32) → (Nat → Int32) → (Nat → Int32) → (Nat → Int32) → (Nat → Int32) → (Nat → Int32) → (Nat → Int32) → (Nat → Int32) → (Nat → Int32) → (Nat → Int32) → Option (Int32 × Int32 × Int32 × (Nat → Int32) × (Nat → Int32) × (Nat → Int32) × (Nat → Int32) × (Nat → Int32) × (Nat → Int32) × (Nat → Int32) × (Nat → Int32) × (Nat → Int32) × (Nat → Int32) × (Nat → Int32) × (Nat → Int32) × (Nat → Int64) × (Nat → Int32))
  | 0, x3_56, f_undoFirst_56, f_undos_56, a_stepOf_56, a_sizeOf_56, a_trainOf_56, a_carOf_56, a_placeOf_56, a_ageOf_56, a_markOf_56, a_linkTo_56, a_rootTo_56, a_keptMany_56, a_keptRow_56 => none
  | k56 + 1, x3_56, f_undoFirst_56, f_undos_56, a_stepOf_56, a_sizeOf_56, a_trainOf_56, a_carOf_56, a_placeOf_56, a_ageOf_56, a_markOf_56, a_linkTo_56, a_rootTo_56, a_keptMany_56, a_keptRow_56 =>
    (mX12_isThere (0 : Int32) x3_56 a_sizeOf_56).bind (fun q12 =>
      if q12 = true then
        mX12_make_56 v_size v_root f_bank a_unitsTold a_sumFrom a_sumBehind a_codeSort a_codeValue a_refused a_stack a_asked k56 (x3_56 + 1) f_undoFirst_56 f_undos_56 a_stepOf_56 a_sizeOf_56 a_trainOf_56 a_carOf_56 a_placeOf_56 a_ageOf_56 a_markOf_56 a_linkTo_56 a_rootTo_56 a_keptMany_56 a_keptRow_56
      else
        (mX12_isFresh f_bank a_sumFrom a_sumBehind a_codeSort a_codeValue a_stepOf_56 a_sizeOf_56 a_trainOf_56 a_carOf_56 a_stack a_asked).bind (xu fun q14_1 => xu fun q14_2 => fun q14_3 =>
          if q14_1 = true then
            (mX12_trainsOf (0 : Int32) a_sizeOf_56 a_trainOf_56).bind (fun q16 =>
              mX12_make_93 v_size v_root f_bank a_unitsTold a_refused x3_56 q16 f_undoFirst_56 f_undos_56 a_stepOf_56 a_sizeOf_56 a_trainOf_56 a_carOf_56 a_placeOf_56 a_ageOf_56 a_markOf_56 a_linkTo_56 a_rootTo_56 a_keptMany_56 a_keptRow_56 q14_2 q14_3)
          else
            (mX12_trainsOf (0 : Int32) a_sizeOf_56 a_trainOf_56).bind (fun q17 =>
              mX12_make_93 v_size v_root f_bank a_unitsTold a_refused x3_56 (q17 - 1) f_undoFirst_56 f_undos_56 a_stepOf_56 a_sizeOf_56 a_trainOf_56 a_carOf_56 a_placeOf_56 a_ageOf_56 a_markOf_56 a_linkTo_56 a_rootTo_56 a_keptMany_56 a_keptRow_56 q14_2 q14_3)))
def mX12_make (v_size : Int32) (v_root : Int32) (f_bank : Int32) (f_isHeap : Bool) (f_undoFirst : Int32) (f_undos : Int32) (a_unitsTold : Nat → Int32) (a_sumFrom : Nat → Int32) (a_sumBehind : Nat → Int32) (a_codeSort : Nat → Int32) (a_codeValue : Nat → Int32) (a_refused : Nat → Int32) (a_stepOf : Nat → Int32) (a_sizeOf : Nat → Int32) (a_trainOf : Nat → Int32) (a_carOf : Nat → Int32) (a_placeOf : Nat → Int32) (a_ageOf : Nat → Int32) (a_markOf : Nat → Int32) (a_linkTo : Nat → Int32) (a_rootTo : Nat → Int32) (a_keptMany : Nat → Int32) (a_keptRow : Nat → Int32) (a_stack : Nat → Int64) (a_asked : Nat → Int32) : Option (Int32 × Int32 × Int32 × (Nat → Int32) × (Nat → Int32) × (Nat → Int32) × (Nat → Int32) × (Nat → Int32) × (Nat → Int32) × (Nat → Int32) × (Nat → Int32) × (Nat → Int32) × (Nat → Int32) × (Nat → Int32) × (Nat → Int32) × (Nat → Int64) × (Nat → Int32)) :=
  if f_isHeap = true then
    if xinb f_bank 2 = true then
      if (mX12_is v_size (1 : Int32) (a_unitsTold f_bank.toNatClampNeg)) = true then
        if (mX12_is v_root (0 : Int32) (7 : Int32)) = true then
          (mX12_thingsOf (0 : Int32) a_sizeOf).bind (fun q5 =>
            if q5 = 40 then
              (mX12_refuses (3 : Int32) a_refused).bind (xu fun q7_1 => fun q7_2 =>
                some (q7_1, f_undoFirst, f_undos, q7_2, a_stepOf, a_sizeOf, a_trainOf, a_carOf, a_placeOf, a_ageOf, a_markOf, a_linkTo, a_rootTo, a_keptMany, a_keptRow, a_stack, a_asked))
            else
              (mX12_keeps f_undoFirst f_undos a_stepOf a_sizeOf a_trainOf a_carOf a_placeOf a_ageOf a_markOf a_linkTo a_rootTo a_keptMany a_keptRow).bind (xu fun q8_1 => xu fun q8_2 => xu fun q8_3 => xu fun q8_4 => xu fun q8_5 => xu fun q8_6 => xu fun q8_7 => xu fun q8_8 => xu fun q8_9 => xu fun q8_10 => xu fun q8_11 => xu fun q8_12 => fun q8_13 =>
                mX12_make_56 v_size v_root f_bank a_unitsTold a_sumFrom a_sumBehind a_codeSort a_codeValue a_refused a_stack a_asked xfuel (0 : Int32) q8_1 q8_2 q8_3 q8_4 q8_5 q8_6 q8_7 q8_8 q8_9 q8_10 q8_11 q8_12 q8_13))
        else
          (mX12_refuses (3 : Int32) a_refused).bind (xu fun q9_1 => fun q9_2 =>
            some (q9_1, f_undoFirst, f_undos, q9_2, a_stepOf, a_sizeOf, a_trainOf, a_carOf, a_placeOf, a_ageOf, a_markOf, a_linkTo, a_rootTo, a_keptMany, a_keptRow, a_stack, a_asked))
      else
        (mX12_refuses (3 : Int32) a_refused).bind (xu fun q10_1 => fun q10_2 =>
          some (q10_1, f_undoFirst, f_undos, q10_2, a_stepOf, a_sizeOf, a_trainOf, a_carOf, a_placeOf, a_ageOf, a_markOf, a_linkTo, a_rootTo, a_keptMany, a_keptRow, a_stack, a_asked))
    else none
  else
    (mX12_refuses (3 : Int32) a_refused).bind (xu fun q11_1 => fun q11_2 =>
      some (q11_1, f_undoFirst, f_undos, q11_2, a_stepOf, a_sizeOf, a_trainOf, a_carOf, a_placeOf, a_ageOf, a_markOf, a_linkTo, a_rootTo, a_keptMany, a_keptRow, a_stack, a_asked))
def mX12_isLiving (v_t : Int32) (a_sizeOf : Nat → Int32) (a_linkTo : Nat → Int32) (a_rootTo : Nat → Int32) (a_farOf : Nat → Int32) (a_queue : Nat → Int32) : Option (Bool × (Nat → Int32) × (Nat → Int32)) :=
  (mX12_isThing v_t a_sizeOf).bind (fun q1 =>
    if q1 = true then
      (mX12_livesNow a_linkTo a_rootTo a_farOf a_queue).bind (xu fun q3_1 => xu fun q3_2 => fun q3_3 =>
        if xinb v_t 40 = true then
          if (q3_2 v_t.toNatClampNeg) < 100000000 then
            some (true, q3_2, q3_3)
          else
            some (false, q3_2, q3_3)
        else none)
    else
      some (false, a_farOf, a_queue))
def mX12_set_44 (f_undoFirst : Int32) (f_undos : Int32) (a_refused : Nat → Int32) (a_stepOf : Nat → Int32) (a_sizeOf : Nat → Int32) (a_trainOf : Nat → Int32) (a_carOf : Nat → Int32) (a_placeOf : Nat → Int32) (a_ageOf : Nat → Int32) (a_markOf : Nat → Int32) (a_linkTo : Nat → Int32) (a_rootTo : Nat → Int32) (a_keptMany : Nat → Int32) (a_keptRow : Nat → Int32)  (a_farOf_44 : Nat → Int32) (a_queue_44 : Nat → Int32) : Option (Bool × Int32 × Int32 × (Nat → Int32) × (Nat → Int32) × (Nat → Int32) × (Nat → Int32) × (Nat → Int32) × (Nat → Int32) × (Nat → Int32) × (Nat → Int32) × (Nat → Int32) × (Nat → Int32) × (Nat → Int32) × (Nat → Int32) × (Nat → Int32) × (Nat → Int32)) :=
  (mX12_refuses (3 : Int32) a_refused).bind (xu fun q10_1 => fun q10_2 =>
    if q10_1 < 0 then
      some (false, f_undoFirst, f_undos, q10_2, a_stepOf, a_sizeOf, a_trainOf, a_carOf, a_placeOf, a_ageOf, a_markOf, a_linkTo, a_rootTo, a_keptMany, a_keptRow, a_farOf_44, a_queue_44)
    else
      some (true, f_undoFirst, f_undos, q10_2, a_stepOf, a_sizeOf, a_trainOf, a_carOf, a_placeOf, a_ageOf, a_markOf, a_linkTo, a_rootTo, a_keptMany, a_keptRow, a_farOf_44, a_queue_44))
def mX12_set_30 (v_thing : Int32) (v_k : Int32) (v_to : Int32) (f_undoFirst : Int32) (f_undos : Int32) (a_refused : Nat → Int32) (a_stepOf : Nat → Int32) (a_sizeOf : Nat → Int32) (a_trainOf : Nat → Int32) (a_carOf : Nat → Int32) (a_placeOf : Nat → Int32) (a_ageOf : Nat → Int32) (a_markOf : Nat → Int32) (a_linkTo : Nat → Int32) (a_rootTo : Nat → Int32) (a_keptMany : Nat → Int32) (a_keptRow : Nat → Int32)  (a_farOf_30 : Nat → Int32) (a_queue_30 : Nat → Int32) : Option (Bool × Int32 × Int32 × (Nat → Int32) × (Nat → Int32) × (Nat → Int32) × (Nat → Int32) × (Nat → Int32) × (Nat → Int32) × (Nat → Int32) × (Nat → Int32) × (Nat → Int32) × (Nat → Int32) × (Nat → Int32) × (Nat → Int32) × (Nat → Int32) × (Nat → Int32)) :=
  if xinb ((4 * v_thing) + v_k) 3520 = true then
    if (a_linkTo ((4 * v_thing) + v_k).toNatClampNeg) = v_to then
      mX12_set_44 f_undoFirst f_undos a_refused a_stepOf a_sizeOf a_trainOf a_carOf a_placeOf a_ageOf a_markOf a_linkTo a_rootTo a_keptMany a_keptRow a_farOf_30 a_queue_30
    else
      (mX12_keeps f_undoFirst f_undos a_stepOf a_sizeOf a_trainOf a_carOf a_placeOf a_ageOf a_markOf a_linkTo a_rootTo a_keptMany a_keptRow).bind (xu fun q9_1 => xu fun q9_2 => xu fun q9_3 => xu fun q9_4 => xu fun q9_5 => xu fun q9_6 => xu fun q9_7 => xu fun q9_8 => xu fun q9_9 => xu fun q9_10 => xu fun q9_11 => xu fun q9_12 => fun q9_13 =>
        some (true, q9_1, q9_2, a_refused, q9_3, q9_4, q9_5, q9_6, q9_7, q9_8, q9_9, upd q9_10 ((4 * v_thing) + v_k).toNatClampNeg v_to, q9_11, q9_12, q9_13, a_farOf_30, a_queue_30))
  else none
def mX12_set (v_thing : Int32) (v_k : Int32) (v_to : Int32) (f_undoFirst : Int32) (f_undos : Int32) (a_refused : Nat → Int32) (a_stepOf : Nat → Int32) (a_sizeOf : Nat → Int32) (a_trainOf : Nat → Int32) (a_carOf : Nat → Int32) (a_placeOf : Nat → Int32) (a_ageOf : Nat → Int32) (a_markOf : Nat → Int32) (a_linkTo : Nat → Int32) (a_rootTo : Nat → Int32) (a_keptMany : Nat → Int32) (a_keptRow : Nat → Int32) (a_farOf : Nat → Int32) (a_queue : Nat → Int32) : Option (Bool × Int32 × Int32 × (Nat → Int32) × (Nat → Int32) × (Nat → Int32) × (Nat → Int32) × (Nat → Int32) × (Nat → Int32) × (Nat → Int32) × (Nat → Int32) × (Nat → Int32) × (Nat → Int32) × (Nat → Int32) × (Nat → Int32) × (Nat → Int32) × (Nat → Int32)) :=
  (mX12_isLiving v_thing a_sizeOf a_linkTo a_rootTo a_farOf a_queue).bind (xu fun q1_1 => xu fun q1_2 => fun q1_3 =>
    if q1_1 = true then
      if (mX12_is v_k (0 : Int32) (3 : Int32)) = true then
        if v_to = (-1) then
          mX12_set_30 v_thing v_k v_to f_undoFirst f_undos a_refused a_stepOf a_sizeOf a_trainOf a_carOf a_placeOf a_ageOf a_markOf a_linkTo a_rootTo a_keptMany a_keptRow q1_2 q1_3
        else
          (mX12_isLiving v_to a_sizeOf a_linkTo a_rootTo q1_2 q1_3).bind (xu fun q5_1 => xu fun q5_2 => fun q5_3 =>
            if q5_1 = true then
              mX12_set_30 v_thing v_k v_to f_undoFirst f_undos a_refused a_stepOf a_sizeOf a_trainOf a_carOf a_placeOf a_ageOf a_markOf a_linkTo a_rootTo a_keptMany a_keptRow q5_2 q5_3
            else
              mX12_set_44 f_undoFirst f_undos a_refused a_stepOf a_sizeOf a_trainOf a_carOf a_placeOf a_ageOf a_markOf a_linkTo a_rootTo a_keptMany a_keptRow q5_2 q5_3)
      else
        mX12_set_44 f_undoFirst f_undos a_refused a_stepOf a_sizeOf a_trainOf a_carOf a_placeOf a_ageOf a_markOf a_linkTo a_rootTo a_keptMany a_keptRow q1_2 q1_3
    else
      mX12_set_44 f_undoFirst f_undos a_refused a_stepOf a_sizeOf a_trainOf a_carOf a_placeOf a_ageOf a_markOf a_linkTo a_rootTo a_keptMany a_keptRow q1_2 q1_3)
def mX12_aim_33 (f_undoFirst : Int32) (f_undos : Int32) (a_refused : Nat → Int32) (a_stepOf : Nat → Int32) (a_sizeOf : Nat → Int32) (a_trainOf : Nat → Int32) (a_carOf : Nat → Int32) (a_placeOf : Nat → Int32) (a_ageOf : Nat → Int32) (a_markOf : Nat → Int32) (a_linkTo : Nat → Int32) (a_rootTo : Nat → Int32) (a_keptMany : Nat → Int32) (a_keptRow : Nat → Int32)  (a_farOf_33 : Nat → Int32) (a_queue_33 : Nat → Int32) : Option (Bool × Int32 × Int32 × (Nat → Int32) × (Nat → Int32) × (Nat → Int32) × (Nat → Int32) × (Nat → Int32) × (Nat → Int32) × (Nat → Int32) × (Nat → Int32) × (Nat → Int32) × (Nat → Int32) × (Nat → Int32) × (Nat → Int32) × (Nat → Int32) × (Nat → Int32)) :=
  (mX12_refuses (3 : Int32) a_refused).bind (xu fun q8_1 => fun q8_2 =>
    if q8_1 < 0 then
      some (false, f_undoFirst, f_undos, q8_2, a_stepOf, a_sizeOf, a_trainOf, a_carOf, a_placeOf, a_ageOf, a_markOf, a_linkTo, a_rootTo, a_keptMany, a_keptRow, a_farOf_33, a_queue_33)
    else
      some (true, f_undoFirst, f_undos, q8_2, a_stepOf, a_sizeOf, a_trainOf, a_carOf, a_placeOf, a_ageOf, a_markOf, a_linkTo, a_rootTo, a_keptMany, a_keptRow, a_farOf_33, a_queue_33))
def mX12_aim_23 (v_root : Int32) (v_to : Int32) (f_undoFirst : Int32) (f_undos : Int32) (a_refused : Nat → Int32) (a_stepOf : Nat → Int32) (a_sizeOf : Nat → Int32) (a_trainOf : Nat → Int32) (a_carOf : Nat → Int32) (a_placeOf : Nat → Int32) (a_ageOf : Nat → Int32) (a_markOf : Nat → Int32) (a_linkTo : Nat → Int32) (a_rootTo : Nat → Int32) (a_keptMany : Nat → Int32) (a_keptRow : Nat → Int32)  (a_farOf_23 : Nat → Int32) (a_queue_23 : Nat → Int32) : Option (Bool × Int32 × Int32 × (Nat → Int32) × (Nat → Int32) × (Nat → Int32) × (Nat → Int32) × (Nat → Int32) × (Nat → Int32) × (Nat → Int32) × (Nat → Int32) × (Nat → Int32) × (Nat → Int32) × (Nat → Int32) × (Nat → Int32) × (Nat → Int32) × (Nat → Int32)) :=
  if xinb v_root 176 = true then
    if (a_rootTo v_root.toNatClampNeg) = v_to then
      mX12_aim_33 f_undoFirst f_undos a_refused a_stepOf a_sizeOf a_trainOf a_carOf a_placeOf a_ageOf a_markOf a_linkTo a_rootTo a_keptMany a_keptRow a_farOf_23 a_queue_23
    else
      (mX12_keeps f_undoFirst f_undos a_stepOf a_sizeOf a_trainOf a_carOf a_placeOf a_ageOf a_markOf a_linkTo a_rootTo a_keptMany a_keptRow).bind (xu fun q7_1 => xu fun q7_2 => xu fun q7_3 => xu fun q7_4 => xu fun q7_5 => xu fun q7_6 => xu fun q7_7 => xu fun q7_8 => xu fun q7_9 => xu fun q7_10 => xu fun q7_11 => xu fun q7_12 => fun q7_13 =>
        some (true, q7_1, q7_2, a_refused, q7_3, q7_4, q7_5, q7_6, q7_7, q7_8, q7_9, q7_10, upd q7_11 v_root.toNatClampNeg v_to, q7_12, q7_13, a_farOf_23, a_queue_23))
  else none
def mX12_aim (v_root : Int32) (v_to : Int32) (f_undoFirst : Int32) (f_undos : Int32) (a_refused : Nat → Int32) (a_stepOf : Nat → Int32) (a_sizeOf : Nat → Int32) (a_trainOf : Nat → Int32) (a_carOf : Nat → Int32) (a_placeOf : Nat → Int32) (a_ageOf : Nat → Int32) (a_markOf : Nat → Int32) (a_linkTo : Nat → Int32) (a_rootTo : Nat → Int32) (a_keptMany : Nat → Int32) (a_keptRow : Nat → Int32) (a_farOf : Nat → Int32) (a_queue : Nat → Int32) : Option (Bool × Int32 × Int32 × (Nat → Int32) × (Nat → Int32) × (Nat → Int32) × (Nat → Int32) × (Nat → Int32) × (Nat → Int32) × (Nat → Int32) × (Nat → Int32) × (Nat → Int32) × (Nat → Int32) × (Nat → Int32) × (Nat → Int32) × (Nat → Int32) × (Nat → Int32)) :=
  if (mX12_is v_root (0 : Int32) (7 : Int32)) = true then
    if v_to = (-1) then
      mX12_aim_23 v_root v_to f_undoFirst f_undos a_refused a_stepOf a_sizeOf a_trainOf a_carOf a_placeOf a_ageOf a_markOf a_linkTo a_rootTo a_keptMany a_keptRow a_farOf a_queue
    else
      (mX12_isLiving v_to a_sizeOf a_linkTo a_rootTo a_farOf a_queue).bind (xu fun q3_1 => xu fun q3_2 => fun q3_3 =>
        if q3_1 = true then
          mX12_aim_23 v_root v_to f_undoFirst f_undos a_refused a_stepOf a_sizeOf a_trainOf a_carOf a_placeOf a_ageOf a_markOf a_linkTo a_rootTo a_keptMany a_keptRow q3_2 q3_3
        else
          mX12_aim_33 f_undoFirst f_undos a_refused a_stepOf a_sizeOf a_trainOf a_carOf a_placeOf a_ageOf a_markOf a_linkTo a_rootTo a_keptMany a_keptRow q3_2 q3_3)
  else
    mX12_aim_33 f_undoFirst f_undos a_refused a_stepOf a_sizeOf a_trainOf a_carOf a_placeOf a_ageOf a_markOf a_linkTo a_rootTo a_keptMany a_keptRow a_farOf a_queue
def mX12_seed (v_seed : Int32) (f_seeds : Int64) (a_refused : Nat → Int32) : Option (Bool × Int64 × (Nat → Int32)) :=
  if v_seed < 0 then
    (mX12_refuses (5 : Int32) a_refused).bind (xu fun q2_1 => fun q2_2 =>
      if q2_1 < 0 then
        some (false, f_seeds, q2_2)
      else
        some (true, f_seeds, q2_2))
  else
    some (true, v_seed.toInt64, a_refused)
def mX12_kept (v_k : Int32) (v_what : Int32) (a_keptMany : Nat → Int32) (a_keptRow : Nat → Int32) : Option (Int32) :=
  if (mX12_is v_k (0 : Int32) ((a_keptMany (0 : Int32).toNatClampNeg) - 1)) = true then
    if (mX12_is v_what (0 : Int32) (2 : Int32)) = true then
      if xinb ((3 * v_k) + v_what) 2640 = true then
        some (a_keptRow ((3 * v_k) + v_what).toNatClampNeg)
      else none
    else
      some ((-1) : Int32)
  else
    some ((-1) : Int32)
def mX12_writes (v_v : Int32) (f_outs : Int32) (a_out : Nat → Int32) : Option (Int32 × (Nat → Int32)) :=
  if xinb f_outs 420 = true then
    some (f_outs + 1, upd a_out f_outs.toNatClampNeg (v_v &&& 255))
  else none
def mX12_image_171   : Nat → Int32 → Int32 → Int32 → (Nat → Int32) → Option (Int32 × Int32 × (Nat → Int32))
  | 0, x1_171, x2_171, f_outs_171, a_out_171 => none
  | k171 + 1, x1_171, x2_171, f_outs_171, a_out_171 =>
    if x2_171 < f_outs_171 then
      if xinb x2_171 420 = true then
        mX12_image_171 k171 (((5 * x1_171) + (a_out_171 x2_171.toNatClampNeg)) - ((5 * x1_171) + (a_out_171 x2_171.toNatClampNeg)) / 251 * 251) (x2_171 + 1) f_outs_171 a_out_171
      else none
    else
      (mX12_writes x1_171 f_outs_171 a_out_171).bind (xu fun q14_1 => fun q14_2 =>
        some (q14_1, q14_1, q14_2))
def mX12_image_134 (a_linkTo : Nat → Int32) (i54 : Nat) (K54 : Int32 → (Nat → Int32) → Option (Int32 × Int32 × (Nat → Int32))) : Nat → Nat → Int32 → (Nat → Int32) → Option (Int32 × Int32 × (Nat → Int32))
  | 0, i134, f_outs_134, a_out_134 => K54 f_outs_134 a_out_134
  | k134 + 1, i134, f_outs_134, a_out_134 =>
    (mX12_writes (a_linkTo ((4 * (nI i54)) + (nI i134)).toNatClampNeg) f_outs_134 a_out_134).bind (xu fun q11_1 => fun q11_2 =>
      mX12_image_134 a_linkTo i54 K54 k134 (i134 + 1) q11_1 q11_2)
def mX12_image_54 (a_sizeOf : Nat → Int32) (a_trainOf : Nat → Int32) (a_carOf : Nat → Int32) (a_placeOf : Nat → Int32) (a_ageOf : Nat → Int32) (a_markOf : Nat → Int32) (a_linkTo : Nat → Int32)  : Nat → Nat → Int32 → (Nat → Int32) → Option (Int32 × Int32 × (Nat → Int32))
  | 0, i54, f_outs_54, a_out_54 => mX12_image_171 xfuel (239 : Int32) (0 : Int32) f_outs_54 a_out_54
  | k54 + 1, i54, f_outs_54, a_out_54 =>
    (mX12_writes (a_sizeOf (nI i54).toNatClampNeg) f_outs_54 a_out_54).bind (xu fun q4_1 => fun q4_2 =>
      if (a_sizeOf (nI i54).toNatClampNeg) = 0 then
        mX12_image_54 a_sizeOf a_trainOf a_carOf a_placeOf a_ageOf a_markOf a_linkTo k54 (i54 + 1) q4_1 q4_2
      else
        (mX12_writes (a_trainOf (nI i54).toNatClampNeg) q4_1 q4_2).bind (xu fun q6_1 => fun q6_2 =>
          (mX12_writes (a_carOf (nI i54).toNatClampNeg) q6_1 q6_2).bind (xu fun q7_1 => fun q7_2 =>
            (mX12_writes (a_placeOf (nI i54).toNatClampNeg) q7_1 q7_2).bind (xu fun q8_1 => fun q8_2 =>
              (mX12_writes (a_ageOf (nI i54).toNatClampNeg) q8_1 q8_2).bind (xu fun q9_1 => fun q9_2 =>
                (mX12_writes (a_markOf (nI i54).toNatClampNeg) q9_1 q9_2).bind (xu fun q10_1 => fun q10_2 =>
                  mX12_image_134 a_linkTo i54 (fun zf_outs_54 za_out_54 => mX12_image_54 a_sizeOf a_trainOf a_carOf a_placeOf a_ageOf a_markOf a_linkTo k54 (i54 + 1) zf_outs_54 za_out_54) 4 0 q10_1 q10_2))))))
def mX12_image_30 (a_sizeOf : Nat → Int32) (a_trainOf : Nat → Int32) (a_carOf : Nat → Int32) (a_placeOf : Nat → Int32) (a_ageOf : Nat → Int32) (a_markOf : Nat → Int32) (a_linkTo : Nat → Int32) (a_rootTo : Nat → Int32)  : Nat → Nat → Int32 → (Nat → Int32) → Option (Int32 × Int32 × (Nat → Int32))
  | 0, i30, f_outs_30, a_out_30 => mX12_image_54 a_sizeOf a_trainOf a_carOf a_placeOf a_ageOf a_markOf a_linkTo 40 0 f_outs_30 a_out_30
  | k30 + 1, i30, f_outs_30, a_out_30 =>
    (mX12_writes (a_rootTo (nI i30).toNatClampNeg) f_outs_30 a_out_30).bind (xu fun q3_1 => fun q3_2 =>
      mX12_image_30 a_sizeOf a_trainOf a_carOf a_placeOf a_ageOf a_markOf a_linkTo a_rootTo k30 (i30 + 1) q3_1 q3_2)
def mX12_image (a_stepOf : Nat → Int32) (a_sizeOf : Nat → Int32) (a_trainOf : Nat → Int32) (a_carOf : Nat → Int32) (a_placeOf : Nat → Int32) (a_ageOf : Nat → Int32) (a_markOf : Nat → Int32) (a_linkTo : Nat → Int32) (a_rootTo : Nat → Int32) (a_out : Nat → Int32) : Option (Int32 × Int32 × (Nat → Int32)) :=
  (mX12_writes ((a_stepOf (0 : Int32).toNatClampNeg) >>> (8 &&& 31)) (0 : Int32) a_out).bind (xu fun q1_1 => fun q1_2 =>
    (mX12_writes (a_stepOf (0 : Int32).toNatClampNeg) q1_1 q1_2).bind (xu fun q2_1 => fun q2_2 =>
      mX12_image_30 a_sizeOf a_trainOf a_carOf a_placeOf a_ageOf a_markOf a_linkTo a_rootTo 8 0 q2_1 q2_2))
def mX12_octet (v_k : Int32) (f_outs : Int32) (a_out : Nat → Int32) : Option (Int32) :=
  if (mX12_is v_k (0 : Int32) (f_outs - 1)) = true then
    if xinb v_k 420 = true then
      some (a_out v_k.toNatClampNeg)
    else none
  else
    some ((-1) : Int32)
def mX12_thingOn_109 (v_t : Int32) (v_at : Int32) (f_bank : Int32) (a_tape : Nat → Int32) (a_unitsTold : Nat → Int32)  : Nat → Nat → (Nat → Int32) → (Nat → Int32) → (Nat → Int32) → (Nat → Int32) → (Nat → Int32) → (Nat → Int32) → (Nat → Int32) → Option (Int32 × (Nat → Int32) × (Nat → Int32) × (Nat → Int32) × (Nat → Int32) × (Nat → Int32) × (Nat → Int32) × (Nat → Int32))
  | 0, i109, a_sizeOf_109, a_trainOf_109, a_carOf_109, a_placeOf_109, a_ageOf_109, a_markOf_109, a_linkTo_109 => if xinb f_bank 2 = true then
      if (a_unitsTold f_bank.toNatClampNeg) < (a_tape v_at.toNatClampNeg) then
        some (((-1) : Int32), a_sizeOf_109, a_trainOf_109, a_carOf_109, a_placeOf_109, a_ageOf_109, a_markOf_109, a_linkTo_109)
      else
        if (a_trainOf_109 (40 + v_t).toNatClampNeg) < 40 then
          if (a_carOf_109 (40 + v_t).toNatClampNeg) < 40 then
            if (a_placeOf_109 (40 + v_t).toNatClampNeg) < 40 then
              if 99 < (a_ageOf_109 (40 + v_t).toNatClampNeg) then
                some (((-1) : Int32), a_sizeOf_109, a_trainOf_109, a_carOf_109, a_placeOf_109, a_ageOf_109, a_markOf_109, a_linkTo_109)
              else
                if 1 < (a_markOf_109 (40 + v_t).toNatClampNeg) then
                  some (((-1) : Int32), a_sizeOf_109, a_trainOf_109, a_carOf_109, a_placeOf_109, a_ageOf_109, a_markOf_109, a_linkTo_109)
                else
                  some ((v_at + 6) + 4, a_sizeOf_109, a_trainOf_109, a_carOf_109, a_placeOf_109, a_ageOf_109, a_markOf_109, a_linkTo_109)
            else
              some (((-1) : Int32), a_sizeOf_109, a_trainOf_109, a_carOf_109, a_placeOf_109, a_ageOf_109, a_markOf_109, a_linkTo_109)
          else
            some (((-1) : Int32), a_sizeOf_109, a_trainOf_109, a_carOf_109, a_placeOf_109, a_ageOf_109, a_markOf_109, a_linkTo_109)
        else
          some (((-1) : Int32), a_sizeOf_109, a_trainOf_109, a_carOf_109, a_placeOf_109, a_ageOf_109, a_markOf_109, a_linkTo_109)
    else none
  | k109 + 1, i109, a_sizeOf_109, a_trainOf_109, a_carOf_109, a_placeOf_109, a_ageOf_109, a_markOf_109, a_linkTo_109 =>
    if xinb ((v_at + 6) + (nI i109)) 1800 = true then
      if (a_tape ((v_at + 6) + (nI i109)).toNatClampNeg) = 255 then
        if xinb ((4 * (40 + v_t)) + (nI i109)) 3520 = true then
          mX12_thingOn_109 v_t v_at f_bank a_tape a_unitsTold k109 (i109 + 1) a_sizeOf_109 a_trainOf_109 a_carOf_109 a_placeOf_109 a_ageOf_109 a_markOf_109 (upd a_linkTo_109 ((4 * (40 + v_t)) + (nI i109)).toNatClampNeg (-1))
        else none
      else
        if xinb ((4 * (40 + v_t)) + (nI i109)) 3520 = true then
          mX12_thingOn_109 v_t v_at f_bank a_tape a_unitsTold k109 (i109 + 1) a_sizeOf_109 a_trainOf_109 a_carOf_109 a_placeOf_109 a_ageOf_109 a_markOf_109 (upd a_linkTo_109 ((4 * (40 + v_t)) + (nI i109)).toNatClampNeg (a_tape ((v_at + 6) + (nI i109)).toNatClampNeg))
        else none
    else none
def mX12_thingOn (v_t : Int32) (v_at : Int32) (f_bank : Int32) (a_tape : Nat → Int32) (a_unitsTold : Nat → Int32) (a_sizeOf : Nat → Int32) (a_trainOf : Nat → Int32) (a_carOf : Nat → Int32) (a_placeOf : Nat → Int32) (a_ageOf : Nat → Int32) (a_markOf : Nat → Int32) (a_linkTo : Nat → Int32) : Option (Int32 × (Nat → Int32) × (Nat → Int32) × (Nat → Int32) × (Nat → Int32) × (Nat → Int32) × (Nat → Int32) × (Nat → Int32)) :=
  (mX12_clears (1 : Int32) v_t a_sizeOf a_trainOf a_carOf a_placeOf a_ageOf a_markOf a_linkTo).bind (xu fun q1_1 => xu fun q1_2 => xu fun q1_3 => xu fun q1_4 => xu fun q1_5 => xu fun q1_6 => fun q1_7 =>
    if xinb v_at 1800 = true then
      if (a_tape v_at.toNatClampNeg) = 0 then
        some (v_at + 1, q1_1, q1_2, q1_3, q1_4, q1_5, q1_6, q1_7)
      else
        if xinb (40 + v_t) 880 = true then
          if xinb (v_at + 1) 1800 = true then
            if xinb (v_at + 2) 1800 = true then
              if xinb (v_at + 3) 1800 = true then
                if xinb (v_at + 4) 1800 = true then
                  if xinb (v_at + 5) 1800 = true then
                    mX12_thingOn_109 v_t v_at f_bank a_tape a_unitsTold 4 0 (upd q1_1 (40 + v_t).toNatClampNeg (a_tape v_at.toNatClampNeg)) (upd q1_2 (40 + v_t).toNatClampNeg (a_tape (v_at + 1).toNatClampNeg)) (upd q1_3 (40 + v_t).toNatClampNeg (a_tape (v_at + 2).toNatClampNeg)) (upd q1_4 (40 + v_t).toNatClampNeg (a_tape (v_at + 3).toNatClampNeg)) (upd q1_5 (40 + v_t).toNatClampNeg (a_tape (v_at + 4).toNatClampNeg)) (upd q1_6 (40 + v_t).toNatClampNeg (a_tape (v_at + 5).toNatClampNeg)) q1_7
                  else none
                else none
              else none
            else none
          else none
        else none
    else none)
def mX12_isAimed (v_to : Int32) (a_sizeOf : Nat → Int32) : Option (Bool) :=
  if v_to = (-1) then
    some true
  else
    if v_to < 40 then
      (mX12_isThere (1 : Int32) v_to a_sizeOf).bind (fun q3 =>
        if q3 = true then
          some true
        else
          some false)
    else
      some false
