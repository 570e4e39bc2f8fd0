def mX12_ticks_144 (v_v : Int32) (a_stepOf : Nat → Int32)  : Nat → Nat → Int32 → Int32 → Int32 → Int32 → Bool → (Nat → Int32) → (Nat → Int32) → (Nat → Int32) → (Nat → Int32) → (Nat → Int32) → (Nat → Int32) → (Nat → Int32) → (Nat → Int32) → (Nat → Int32) → (Nat → Int64) → (Nat → Int32) → (Nat → Int32) → (Nat → Int32) → (Nat → Int32) → (Nat → Int32) → Option (Int32 × Int32 × Int32 × Int32 × Bool × (Nat → Int32) × (Nat → Int32) × (Nat → Int32) × (Nat → Int32) × (Nat → Int32) × (Nat → Int32) × (Nat → Int32) × (Nat → Int32) × (Nat → Int32) × (Nat → Int32) × (Nat → Int64) × (Nat → Int32) × (Nat → Int32) × (Nat → Int32) × (Nat → Int32) × (Nat → Int32))
  | 0, i144, f_ruleNow_144, f_fell_144, f_went_144, f_cost_144, f_isFutile_144, a_sizeOf_144, a_trainOf_144, a_carOf_144, a_placeOf_144, a_ageOf_144, a_markOf_144, a_linkTo_144, a_keptMany_144, a_keptRow_144, a_stack_144, a_asked_144, a_newPlace_144, a_isMoved_144, a_isStaying_144, a_stayTrain_144 => if xinb v_v 22 = true then
      some (f_ruleNow_144, f_fell_144, f_went_144, f_cost_144, f_isFutile_144, upd a_stepOf v_v.toNatClampNeg ((a_stepOf v_v.toNatClampNeg) + 1), a_sizeOf_144, a_trainOf_144, a_carOf_144, a_placeOf_144, a_ageOf_144, a_markOf_144, a_linkTo_144, a_keptMany_144, a_keptRow_144, a_stack_144, a_asked_144, a_newPlace_144, a_isMoved_144, a_isStaying_144, a_stayTrain_144)
    else none
  | k144 + 1, i144, f_ruleNow_144, f_fell_144, f_went_144, f_cost_144, f_isFutile_144, a_sizeOf_144, a_trainOf_144, a_carOf_144, a_placeOf_144, a_ageOf_144, a_markOf_144, a_linkTo_144, a_keptMany_144, a_keptRow_144, a_stack_144, a_asked_144, a_newPlace_144, a_isMoved_144, a_isStaying_144, a_stayTrain_144 =>
    (mX12_isThere v_v (nI i144) a_sizeOf_144).bind (fun q24 =>
      if q24 = true then
        if xinb ((40 * v_v) + (nI i144)) 880 = true then
          if (a_ageOf_144 ((40 * v_v) + (nI i144)).toNatClampNeg) < 99 then
            mX12_ticks_144 v_v a_stepOf k144 (i144 + 1) f_ruleNow_144 f_fell_144 f_went_144 f_cost_144 f_isFutile_144 a_sizeOf_144 a_trainOf_144 a_carOf_144 a_placeOf_144 (upd a_ageOf_144 ((40 * v_v) + (nI i144)).toNatClampNeg ((a_ageOf_144 ((40 * v_v) + (nI i144)).toNatClampNeg) + 1)) a_markOf_144 a_linkTo_144 a_keptMany_144 a_keptRow_144 a_stack_144 a_asked_144 a_newPlace_144 a_isMoved_144 a_isStaying_144 a_stayTrain_144
          else
            mX12_ticks_144 v_v a_stepOf k144 (i144 + 1) f_ruleNow_144 f_fell_144 f_went_144 f_cost_144 f_isFutile_144 a_sizeOf_144 a_trainOf_144 a_carOf_144 a_placeOf_144 a_ageOf_144 a_markOf_144 a_linkTo_144 a_keptMany_144 a_keptRow_144 a_stack_144 a_asked_144 a_newPlace_144 a_isMoved_144 a_isStaying_144 a_stayTrain_144
        else none
      else
        mX12_ticks_144 v_v a_stepOf k144 (i144 + 1) f_ruleNow_144 f_fell_144 f_went_144 f_cost_144 f_isFutile_144 a_sizeOf_144 a_trainOf_144 a_carOf_144 a_placeOf_144 a_ageOf_144 a_markOf_144 a_linkTo_144 a_keptMany_144 a_keptRow_144 a_stack_144 a_asked_144 a_newPlace_144 a_isMoved_144 a_isStaying_144 a_stayTrain_144)
def mX12_ticks_104 (v_v : Int32) (f_bank : Int32) (f_ruleNow : Int32) (a_unitsTold : Nat → Int32) (a_sumFrom : Nat → Int32) (a_sumBehind : Nat → Int32) (a_codeSort : Nat → Int32) (a_codeValue : Nat → Int32) (a_stepOf : Nat → Int32) (a_sizeOf : Nat → Int32) (a_trainOf : Nat → Int32) (a_carOf : Nat → Int32) (a_placeOf : Nat → Int32) (a_ageOf : Nat → Int32) (a_markOf : Nat → Int32) (a_linkTo : Nat → Int32) (a_rootTo : Nat → Int32) (a_keptMany : Nat → Int32) (a_keptRow : Nat → Int32) (a_stack : Nat → Int64) (a_asked : Nat → Int32) (a_newPlace : Nat → Int32) (a_isMoved : Nat → Int32) (a_stayTrain : Nat → Int32)  (a_isStaying_104 : Nat → Int32) : Option (Int32 × Int32 × Int32 × Int32 × Bool × (Nat → Int32) × (Nat → Int32) × (Nat → Int32) × (Nat → Int32) × (Nat → Int32) × (Nat → Int32) × (Nat → Int32) × (Nat → Int32) × (Nat → Int32) × (Nat → Int32) × (Nat → Int64) × (Nat → Int32) × (Nat → Int32) × (Nat → Int32) × (Nat → Int32) × (Nat → Int32)) :=
  (mX12_trainsOf v_v a_sizeOf a_trainOf).bind (fun q13 =>
    if 0 < q13 then
      (mX12_empties v_v f_bank f_ruleNow (0 : Int32) (0 : Int32) (0 : Int32) a_unitsTold a_sumFrom a_sumBehind a_codeSort a_codeValue a_stepOf a_sizeOf a_trainOf a_carOf a_placeOf a_ageOf a_markOf a_linkTo a_rootTo a_stack a_asked a_newPlace a_isMoved a_isStaying_104 a_stayTrain).bind (xu fun q15_1 => xu fun q15_2 => xu fun q15_3 => xu fun q15_4 => xu fun q15_5 => xu fun q15_6 => xu fun q15_7 => xu fun q15_8 => xu fun q15_9 => xu fun q15_10 => xu fun q15_11 => xu fun q15_12 => xu fun q15_13 => xu fun q15_14 => xu fun q15_15 => xu fun q15_16 => xu fun q15_17 => fun q15_18 =>
        if q15_5 = true then
          (mX12_isMarkedFirst v_v q15_6 q15_7 q15_11).bind (fun q17 =>
            if q17 = true then
              (mX12_writesDown v_v q15_2 q15_3 a_stepOf a_keptMany a_keptRow).bind (xu fun q19_1 => fun q19_2 =>
                mX12_ticks_144 v_v a_stepOf 40 0 q15_1 q15_2 q15_3 q15_4 q15_5 q15_6 q15_7 q15_8 q15_9 q15_10 q15_11 q15_12 q19_1 q19_2 q15_13 q15_14 q15_15 q15_16 q15_17 q15_18)
            else
              (mX12_marks v_v q15_6 q15_7 q15_8 q15_9 q15_11 q15_12 a_rootTo q15_17 q15_18).bind (fun q20 =>
                (mX12_writesDown v_v q15_2 q15_3 a_stepOf a_keptMany a_keptRow).bind (xu fun q21_1 => fun q21_2 =>
                  mX12_ticks_144 v_v a_stepOf 40 0 q15_1 q15_2 q15_3 q15_4 q15_5 q15_6 q15_7 q15_8 q15_9 q15_10 q20 q15_12 q21_1 q21_2 q15_13 q15_14 q15_15 q15_16 q15_17 q15_18)))
        else
          (mX12_writesDown v_v q15_2 q15_3 a_stepOf a_keptMany a_keptRow).bind (xu fun q22_1 => fun q22_2 =>
            mX12_ticks_144 v_v a_stepOf 40 0 q15_1 q15_2 q15_3 q15_4 q15_5 q15_6 q15_7 q15_8 q15_9 q15_10 q15_11 q15_12 q22_1 q22_2 q15_13 q15_14 q15_15 q15_16 q15_17 q15_18))
    else
      (mX12_writesDown v_v (0 : Int32) (0 : Int32) a_stepOf a_keptMany a_keptRow).bind (xu fun q23_1 => fun q23_2 =>
        mX12_ticks_144 v_v a_stepOf 40 0 f_ruleNow (0 : Int32) (0 : Int32) (0 : Int32) false a_sizeOf a_trainOf a_carOf a_placeOf a_ageOf a_markOf a_linkTo q23_1 q23_2 a_stack a_asked a_newPlace a_isMoved a_isStaying_104 a_stayTrain))
def mX12_ticks_42 (v_v : Int32) (f_ruleNow : Int32) (a_stepOf : Nat → Int32) (a_keptMany : Nat → Int32) (a_keptRow : Nat → Int32) (a_stack : Nat → Int64) (a_asked : Nat → Int32) (a_newPlace : Nat → Int32) (a_isMoved : Nat → Int32) (a_stayTrain : Nat → Int32)  : Nat → Nat → Int32 → (Nat → Int32) → (Nat → Int32) → (Nat → Int32) → (Nat → Int32) → (Nat → Int32) → (Nat → Int32) → (Nat → Int32) → (Nat → Int32) → Option (Int32 × Int32 × Int32 × Int32 × Bool × (Nat → Int32) × (Nat → Int32) × (Nat → Int32) × (Nat → Int32) × (Nat → Int32) × (Nat → Int32) × (Nat → Int32) × (Nat → Int32) × (Nat → Int32) × (Nat → Int32) × (Nat → Int64) × (Nat → Int32) × (Nat → Int32) × (Nat → Int32) × (Nat → Int32) × (Nat → Int32))
  | 0, i42, f_fell_42, a_sizeOf_42, a_trainOf_42, a_carOf_42, a_placeOf_42, a_ageOf_42, a_markOf_42, a_linkTo_42, a_isStaying_42 => (mX12_closes v_v a_sizeOf_42 a_trainOf_42 a_carOf_42 a_placeOf_42 a_newPlace a_isMoved).bind (xu fun q11_1 => xu fun q11_2 => xu fun q11_3 => xu fun q11_4 => fun q11_5 =>
      (mX12_writesDown v_v f_fell_42 (0 : Int32) a_stepOf a_keptMany a_keptRow).bind (xu fun q12_1 => fun q12_2 =>
        mX12_ticks_144 v_v a_stepOf 40 0 f_ruleNow f_fell_42 (0 : Int32) (0 : Int32) false a_sizeOf_42 q11_1 q11_2 q11_3 a_ageOf_42 a_markOf_42 a_linkTo_42 q12_1 q12_2 a_stack a_asked q11_4 q11_5 a_isStaying_42 a_stayTrain))
  | k42 + 1, i42, f_fell_42, a_sizeOf_42, a_trainOf_42, a_carOf_42, a_placeOf_42, a_ageOf_42, a_markOf_42, a_linkTo_42, a_isStaying_42 =>
    (mX12_isThere v_v (nI i42) a_sizeOf_42).bind (fun q6 =>
      if q6 = true then
        if xinb ((40 * v_v) + (nI i42)) 880 = true then
          if (a_trainOf_42 ((40 * v_v) + (nI i42)).toNatClampNeg) = 0 then
            (mX12_clears v_v (nI i42) a_sizeOf_42 a_trainOf_42 a_carOf_42 a_placeOf_42 a_ageOf_42 a_markOf_42 a_linkTo_42).bind (xu fun q10_1 => xu fun q10_2 => xu fun q10_3 => xu fun q10_4 => xu fun q10_5 => xu fun q10_6 => fun q10_7 =>
              mX12_ticks_42 v_v f_ruleNow a_stepOf a_keptMany a_keptRow a_stack a_asked a_newPlace a_isMoved a_stayTrain k42 (i42 + 1) (f_fell_42 + 1) q10_1 q10_2 q10_3 q10_4 q10_5 q10_6 q10_7 a_isStaying_42)
          else
            mX12_ticks_42 v_v f_ruleNow a_stepOf a_keptMany a_keptRow a_stack a_asked a_newPlace a_isMoved a_stayTrain k42 (i42 + 1) f_fell_42 a_sizeOf_42 a_trainOf_42 a_carOf_42 a_placeOf_42 a_ageOf_42 a_markOf_42 a_linkTo_42 a_isStaying_42
        else none
      else
        mX12_ticks_42 v_v f_ruleNow a_stepOf a_keptMany a_keptRow a_stack a_asked a_newPlace a_isMoved a_stayTrain k42 (i42 + 1) f_fell_42 a_sizeOf_42 a_trainOf_42 a_carOf_42 a_placeOf_42 a_ageOf_42 a_markOf_42 a_linkTo_42 a_isStaying_42)
def mX12_ticks (v_v : Int32) (f_bank : Int32) (f_ruleNow : Int32) (a_unitsTold : Nat → Int32) (a_sumFrom : Nat → Int32) (a_sumBehind : Nat → Int32) (a_codeSort : Nat → Int32) (a_codeValue : Nat → Int32) (a_stepOf : Nat → Int32) (a_sizeOf : Nat → Int32) (a_trainOf : Nat → Int32) (a_carOf : Nat → Int32) (a_placeOf : Nat → Int32) (a_ageOf : Nat → Int32) (a_markOf : Nat → Int32) (a_linkTo : Nat → Int32) (a_rootTo : Nat → Int32) (a_keptMany : Nat → Int32) (a_keptRow : Nat → Int32) (a_stack : Nat → Int64) (a_asked : Nat → Int32) (a_newPlace : Nat → Int32) (a_isMoved : Nat → Int32) (a_isStaying : Nat → Int32) (a_stayTrain : Nat → Int32) : Option (Int32 × Int32 × Int32 × Int32 × Bool × (Nat → Int32) × (Nat → Int32) × (Nat → Int32) × (Nat → Int32) × (Nat → Int32) × (Nat → Int32) × (Nat → Int32) × (Nat → Int32) × (Nat → Int32) × (Nat → Int32) × (Nat → Int64) × (Nat → Int32) × (Nat → Int32) × (Nat → Int32) × (Nat → Int32) × (Nat → Int32)) :=
  xlet (mX12_stirs a_isStaying) (fun q1 =>
    (mX12_trainsOf v_v a_sizeOf a_trainOf).bind (fun q2 =>
      if 0 < q2 then
        (mX12_isFallen v_v a_sizeOf a_trainOf a_linkTo a_rootTo q1 a_stayTrain).bind (fun q4 =>
          if q4 = true then
            mX12_ticks_42 v_v f_ruleNow a_stepOf a_keptMany a_keptRow a_stack a_asked a_newPlace a_isMoved a_stayTrain 40 0 (0 : Int32) a_sizeOf a_trainOf a_carOf a_placeOf a_ageOf a_markOf a_linkTo q1
          else
            mX12_ticks_104 v_v f_bank f_ruleNow a_unitsTold a_sumFrom a_sumBehind a_codeSort a_codeValue a_stepOf a_sizeOf a_trainOf a_carOf a_placeOf a_ageOf a_markOf a_linkTo a_rootTo a_keptMany a_keptRow a_stack a_asked a_newPlace a_isMoved a_stayTrain q1)
      else
        mX12_ticks_104 v_v f_bank f_ruleNow a_unitsTold a_sumFrom a_sumBehind a_codeSort a_codeValue a_stepOf a_sizeOf a_trainOf a_carOf a_placeOf a_ageOf a_markOf a_linkTo a_rootTo a_keptMany a_keptRow a_stack a_asked a_newPlace a_isMoved a_stayTrain q1))
def mX12_lives_123 (v_v : Int32) (v_but : Int32) (v_butLink : Int32) (a_linkTo : Nat → Int32) (x6_113 : Int32) (K113 : Int32 → Int32 → (Nat → Int32) → (Nat → Int32) → Option (Int32 × (Nat → Int32) × (Nat → Int32))) : Nat → Nat → Int32 → (Nat → Int32) → (Nat → Int32) → Option (Int32 × (Nat → Int32) × (Nat → Int32))
  | 0, i123, x5_123, a_farOf_123, a_queue_123 => K113 x5_123 (x6_113 + 1) a_farOf_123 a_queue_123
  | k123 + 1, i123, x5_123, a_farOf_123, a_queue_123 =>
    if xinb x6_113 40 = true then
      if xinb ((160 * v_v) + ((4 * (a_queue_123 x6_113.toNatClampNeg)) + (nI i123))) 3520 = true then
        if ((4 * (a_queue_123 x6_113.toNatClampNeg)) + (nI i123)) = v_butLink then
          mX12_lives_123 v_v v_but v_butLink a_linkTo x6_113 K113 k123 (i123 + 1) x5_123 a_farOf_123 a_queue_123
        else
          if (a_linkTo ((160 * v_v) + ((4 * (a_queue_123 x6_113.toNatClampNeg)) + (nI i123))).toNatClampNeg) = (-1) then
            mX12_lives_123 v_v v_but v_butLink a_linkTo x6_113 K113 k123 (i123 + 1) x5_123 a_farOf_123 a_queue_123
          else
            if (a_linkTo ((160 * v_v) + ((4 * (a_queue_123 x6_113.toNatClampNeg)) + (nI i123))).toNatClampNeg) = v_but then
              mX12_lives_123 v_v v_but v_butLink a_linkTo x6_113 K113 k123 (i123 + 1) x5_123 a_farOf_123 a_queue_123
            else
              if xinb (a_linkTo ((160 * v_v) + ((4 * (a_queue_123 x6_113.toNatClampNeg)) + (nI i123))).toNatClampNeg) 40 = true then
                if (a_farOf_123 (a_linkTo ((160 * v_v) + ((4 * (a_queue_123 x6_113.toNatClampNeg)) + (nI i123))).toNatClampNeg).toNatClampNeg) < 100000000 then
                  mX12_lives_123 v_v v_but v_butLink a_linkTo x6_113 K113 k123 (i123 + 1) x5_123 a_farOf_123 a_queue_123
                else
                  if xinb (a_queue_123 x6_113.toNatClampNeg) 40 = true then
                    if xinb x5_123 40 = true then
                      mX12_lives_123 v_v v_but v_butLink a_linkTo x6_113 K113 k123 (i123 + 1) (x5_123 + 1) (upd a_farOf_123 (a_linkTo ((160 * v_v) + ((4 * (a_queue_123 x6_113.toNatClampNeg)) + (nI i123))).toNatClampNeg).toNatClampNeg ((a_farOf_123 (a_queue_123 x6_113.toNatClampNeg).toNatClampNeg) + 1)) (upd a_queue_123 x5_123.toNatClampNeg (a_linkTo ((160 * v_v) + ((4 * (a_queue_123 x6_113.toNatClampNeg)) + (nI i123))).toNatClampNeg))
                    else none
                  else none
              else none
      else none
    else none
def mX12_lives_113 (v_v : Int32) (v_but : Int32) (v_butLink : Int32) (a_linkTo : Nat → Int32)  : Nat → Int32 → Int32 → (Nat → Int32) → (Nat → Int32) → Option (Int32 × (Nat → Int32) × (Nat → Int32))
  | 0, x5_113, x6_113, a_farOf_113, a_queue_113 => none
  | k113 + 1, x5_113, x6_113, a_farOf_113, a_queue_113 =>
    if x6_113 < x5_113 then
      mX12_lives_123 v_v v_but v_butLink a_linkTo x6_113 (fun zx5_113 zx6_113 za_farOf_113 za_queue_113 => mX12_lives_113 v_v v_but v_butLink a_linkTo k113 zx5_113 zx6_113 za_farOf_113 za_queue_113) 4 0 x5_113 a_farOf_113 a_queue_113
    else
      some (x5_113, a_farOf_113, a_queue_113)
def mX12_lives_32 (v_v : Int32) (v_but : Int32) (v_butRoot : Int32) (v_butLink : Int32) (a_linkTo : Nat → Int32) (a_rootTo : Nat → Int32)  : Nat → Nat → Int32 → (Nat → Int32) → (Nat → Int32) → Option (Int32 × (Nat → Int32) × (Nat → Int32))
  | 0, i32, x5_32, a_farOf_32, a_queue_32 => mX12_lives_113 v_v v_but v_butLink a_linkTo xfuel x5_32 (0 : Int32) a_farOf_32 a_queue_32
  | k32 + 1, i32, x5_32, a_farOf_32, a_queue_32 =>
    if xinb ((8 * v_v) + (nI i32)) 176 = true then
      if (nI i32) = v_butRoot then
        mX12_lives_32 v_v v_but v_butRoot v_butLink a_linkTo a_rootTo k32 (i32 + 1) x5_32 a_farOf_32 a_queue_32
      else
        if (a_rootTo ((8 * v_v) + (nI i32)).toNatClampNeg) = (-1) then
          mX12_lives_32 v_v v_but v_butRoot v_butLink a_linkTo a_rootTo k32 (i32 + 1) x5_32 a_farOf_32 a_queue_32
        else
          if (a_rootTo ((8 * v_v) + (nI i32)).toNatClampNeg) = v_but then
            mX12_lives_32 v_v v_but v_butRoot v_butLink a_linkTo a_rootTo k32 (i32 + 1) x5_32 a_farOf_32 a_queue_32
          else
            if xinb (a_rootTo ((8 * v_v) + (nI i32)).toNatClampNeg) 40 = true then
              if (a_farOf_32 (a_rootTo ((8 * v_v) + (nI i32)).toNatClampNeg).toNatClampNeg) = 0 then
                mX12_lives_32 v_v v_but v_butRoot v_butLink a_linkTo a_rootTo k32 (i32 + 1) x5_32 a_farOf_32 a_queue_32
              else
                if xinb x5_32 40 = true then
                  mX12_lives_32 v_v v_but v_butRoot v_butLink a_linkTo a_rootTo k32 (i32 + 1) (x5_32 + 1) (upd a_farOf_32 (a_rootTo ((8 * v_v) + (nI i32)).toNatClampNeg).toNatClampNeg 0) (upd a_queue_32 x5_32.toNatClampNeg (a_rootTo ((8 * v_v) + (nI i32)).toNatClampNeg))
                else none
            else none
    else none
def mX12_lives_6 (v_v : Int32) (v_but : Int32) (v_butRoot : Int32) (v_butLink : Int32) (a_linkTo : Nat → Int32) (a_rootTo : Nat → Int32) (a_queue : Nat → Int32)  : Nat → Nat → (Nat → Int32) → Option (Int32 × (Nat → Int32) × (Nat → Int32))
  | 0, i6, a_farOf_6 => mX12_lives_32 v_v v_but v_butRoot v_butLink a_linkTo a_rootTo 8 0 (0 : Int32) a_farOf_6 a_queue
  | k6 + 1, i6, a_farOf_6 =>
    mX12_lives_6 v_v v_but v_butRoot v_butLink a_linkTo a_rootTo a_queue k6 (i6 + 1) (upd a_farOf_6 (nI i6).toNatClampNeg 100000000)
def mX12_lives (v_v : Int32) (v_but : Int32) (v_butRoot : Int32) (v_butLink : Int32) (a_linkTo : Nat → Int32) (a_rootTo : Nat → Int32) (a_farOf : Nat → Int32) (a_queue : Nat → Int32) : Option (Int32 × (Nat → Int32) × (Nat → Int32)) :=
  mX12_lives_6 v_v v_but v_butRoot v_butLink a_linkTo a_rootTo a_queue 40 0 a_farOf
def mX12_livesNow (a_linkTo : Nat → Int32) (a_rootTo : Nat → Int32) (a_farOf : Nat → Int32) (a_queue : Nat → Int32) : Option (Int32 × (Nat → Int32) × (Nat → Int32)) :=
  (mX12_lives (0 : Int32) ((-1) : Int32) ((-1) : Int32) ((-1) : Int32) a_linkTo a_rootTo a_farOf a_queue).bind (xu fun q1_1 => xu fun q1_2 => fun q1_3 =>
    some (q1_1, q1_2, q1_3))
def mX12_isThing (v_t : Int32) (a_sizeOf : Nat → Int32) : Option (Bool) :=
  if (mX12_is v_t (0 : Int32) (39 : Int32)) = true then
    (mX12_isThere (0 : Int32) v_t a_sizeOf).bind (fun q2 =>
      if q2 = true then
        some true
      else
        some false)
  else
    some false
def mX12_thingsOf_4 (v_v : Int32) (a_sizeOf : Nat → Int32)  : Nat → Nat → Int32 → Option (Int32)
  | 0, i4, x2_4 => some x2_4
  | k4 + 1, i4, x2_4 =>
    (mX12_isThere v_v (nI i4) a_sizeOf).bind (fun q1 =>
      if q1 = true then
        mX12_thingsOf_4 v_v a_sizeOf k4 (i4 + 1) (x2_4 + 1)
      else
        mX12_thingsOf_4 v_v a_sizeOf k4 (i4 + 1) (x2_4 + 0))
def mX12_thingsOf (v_v : Int32) (a_sizeOf : Nat → Int32) : Option (Int32) :=
  mX12_thingsOf_4 v_v a_sizeOf 40 0 (0 : Int32)
def mX12_has_95 (a_sizeOf : Nat → Int32) (a_farOf : Nat → Int32) (a_queue : Nat → Int32)  : Nat → Nat → Int32 → Option (Int32 × (Nat → Int32) × (Nat → Int32))
  | 0, i95, x2_95 => some (x2_95, a_farOf, a_queue)
  | k95 + 1, i95, x2_95 =>
    mX12_has_95 a_sizeOf a_farOf a_queue k95 (i95 + 1) (x2_95 + (a_sizeOf (nI i95).toNatClampNeg))
def mX12_has (v_what : Int32) (f_bank : Int32) (f_undos : Int32) (f_seeds : Int64) (f_metMany : Int32) (a_unitsTold : Nat → Int32) (a_stepOf : Nat → Int32) (a_sizeOf : Nat → Int32) (a_trainOf : Nat → Int32) (a_carOf : Nat → Int32) (a_linkTo : Nat → Int32) (a_rootTo : Nat → Int32) (a_keptMany : Nat → Int32) (a_farOf : Nat → Int32) (a_queue : Nat → Int32) : Option (Int32 × (Nat → Int32) × (Nat → Int32)) :=
  if v_what = 0 then
    if xinb f_bank 2 = true then
      some (a_unitsTold f_bank.toNatClampNeg, a_farOf, a_queue)
    else none
  else if v_what = 1 then
    (mX12_thingsOf (0 : Int32) a_sizeOf).bind (fun q5 =>
      some (q5, a_farOf, a_queue))
  else if v_what = 2 then
    (mX12_livesNow a_linkTo a_rootTo a_farOf a_queue).bind (xu fun q8_1 => xu fun q8_2 => fun q8_3 =>
      some (q8_1, q8_2, q8_3))
  else if v_what = 3 then
    (mX12_trainsOf (0 : Int32) a_sizeOf a_trainOf).bind (fun q11 =>
      some (q11, a_farOf, a_queue))
  else if v_what = 4 then
    (mX12_allCars (0 : Int32) a_sizeOf a_trainOf a_carOf).bind (fun q14 =>
      some (q14, a_farOf, a_queue))
  else if v_what = 5 then
    mX12_has_95 a_sizeOf a_farOf a_queue 40 0 (0 : Int32)
  else if v_what = 6 then
    some (a_stepOf (0 : Int32).toNatClampNeg, a_farOf, a_queue)
  else if v_what = 7 then
    some (a_keptMany (0 : Int32).toNatClampNeg, a_farOf, a_queue)
  else if v_what = 8 then
    some (f_metMany, a_farOf, a_queue)
  else if v_what = 9 then
    some (f_undos, a_farOf, a_queue)
  else if v_what = 10 then
    some (f_seeds.toInt32, a_farOf, a_queue)
  else 
    some (((-1) : Int32), a_farOf, a_queue)
def mX12_letter_51 (v_told : Int32) (v_k : Int32) (f_bank : Int32) (a_thingName : Nat → Int64)  : Nat → Int32 → Int64 → Option (Int32)
  | 0, x5_51, x6_51 => none
  | k51 + 1, x5_51, x6_51 =>
    if (0 : Int64) < x6_51 then
      mX12_letter_51 v_told v_k f_bank a_thingName k51 (x5_51 + 1) (x6_51 >>> ((8 : Int32).toInt64 &&& 63))
    else
      if v_k < x5_51 then
        some ((((((a_thingName ((24 * f_bank) + v_told).toNatClampNeg) >>> ((8 * ((x5_51 - 1) - v_k)).toInt64 &&& 63)) &&& 255).toInt32) - 97) + 1)
      else
        some (0 : Int32)
def mX12_letter (v_told : Int32) (v_k : Int32) (f_bank : Int32) (a_told : Nat → Int32) (a_thingName : Nat → Int64) : Option (Int32) :=
  if xinb f_bank 2 = true then
    if (mX12_is v_told (0 : Int32) ((a_told f_bank.toNatClampNeg) - 1)) = true then
      if (mX12_is v_k (0 : Int32) (5 : Int32)) = true then
        if xinb ((24 * f_bank) + v_told) 48 = true then
          mX12_letter_51 v_told v_k f_bank a_thingName xfuel (0 : Int32) (a_thingName ((24 * f_bank) + v_told).toNatClampNeg)
        else none
      else
        some ((-1) : Int32)
    else
      some ((-1) : Int32)
  else none
def mX12_thing (v_thing : Int32) (v_what : Int32) (f_bank : Int32) (a_sumFrom : Nat → Int32) (a_sumBehind : Nat → Int32) (a_codeSort : Nat → Int32) (a_codeValue : Nat → Int32) (a_stepOf : Nat → Int32) (a_sizeOf : Nat → Int32) (a_trainOf : Nat → Int32) (a_carOf : Nat → Int32) (a_placeOf : Nat → Int32) (a_ageOf : Nat → Int32) (a_markOf : Nat → Int32) (a_linkTo : Nat → Int32) (a_rootTo : Nat → Int32) (a_stack : Nat → Int64) (a_asked : Nat → Int32) (a_isStaying : Nat → Int32) (a_farOf : Nat → Int32) (a_queue : Nat → Int32) : Option (Int32 × (Nat → Int64) × (Nat → Int32) × (Nat → Int32) × (Nat → Int32) × (Nat → Int32)) :=
  (mX12_isThing v_thing a_sizeOf).bind (fun q1 =>
    if q1 = true then
      xlet (mX12_stirs a_isStaying) (fun q3 =>
        if v_what = 0 then
          if xinb v_thing 880 = true then
            some (a_sizeOf v_thing.toNatClampNeg, a_stack, a_asked, q3, a_farOf, a_queue)
          else none
        else if v_what = 1 then
          if xinb v_thing 880 = true then
            some (a_trainOf v_thing.toNatClampNeg, a_stack, a_asked, q3, a_farOf, a_queue)
          else none
        else if v_what = 2 then
          if xinb v_thing 880 = true then
            some (a_carOf v_thing.toNatClampNeg, a_stack, a_asked, q3, a_farOf, a_queue)
          else none
        else if v_what = 3 then
          if xinb v_thing 880 = true then
            some (a_placeOf v_thing.toNatClampNeg, a_stack, a_asked, q3, a_farOf, a_queue)
          else none
        else if v_what = 4 then
          (mX12_livesNow a_linkTo a_rootTo a_farOf a_queue).bind (xu fun q17_1 => xu fun q17_2 => fun q17_3 =>
            if xinb v_thing 40 = true then
              if (q17_2 v_thing.toNatClampNeg) < 100000000 then
                some ((1 : Int32), a_stack, a_asked, q3, q17_2, q17_3)
              else
                some ((0 : Int32), a_stack, a_asked, q3, q17_2, q17_3)
            else none)
        else if v_what = 5 then
          (mX12_refsOf (0 : Int32) v_thing a_sizeOf a_trainOf a_carOf a_linkTo a_rootTo q3).bind (fun q22 =>
            some (q22, a_stack, a_asked, q3, a_farOf, a_queue))
        else if v_what = 6 then
          if xinb v_thing 880 = true then
            some (a_ageOf v_thing.toNatClampNeg, a_stack, a_asked, q3, a_farOf, a_queue)
          else none
        else if v_what = 7 then
          if xinb v_thing 880 = true then
            some (a_markOf v_thing.toNatClampNeg, a_stack, a_asked, q3, a_farOf, a_queue)
          else none
        else if v_what = 8 then
          (mX12_isPopular (0 : Int32) v_thing f_bank a_sumFrom a_sumBehind a_codeSort a_codeValue a_stepOf a_sizeOf a_trainOf a_carOf a_ageOf a_linkTo a_rootTo a_stack a_asked q3).bind (xu fun q31_1 => xu fun q31_2 => fun q31_3 =>
            if q31_1 = true then
              some ((1 : Int32), q31_2, q31_3, q3, a_farOf, a_queue)
            else
              some ((0 : Int32), q31_2, q31_3, q3, a_farOf, a_queue))
        else 
          some (((-1) : Int32), a_stack, a_asked, q3, a_farOf, a_queue))
    else
      some (((-1) : Int32), a_stack, a_asked, a_isStaying, a_farOf, a_queue))
def mX12_link (v_thing : Int32) (v_k : Int32) (a_sizeOf : Nat → Int32) (a_linkTo : Nat → Int32) : Option (Int32) :=
  (mX12_isThing v_thing a_sizeOf).bind (fun q1 =>
    if q1 = true then
      if (mX12_is v_k (0 : Int32) (3 : Int32)) = true then
        if xinb ((4 * v_thing) + v_k) 3520 = true then
          some (a_linkTo ((4 * v_thing) + v_k).toNatClampNeg)
        else none
      else
        some ((-1) : Int32)
    else
      some ((-1) : Int32))
def mX12_root (v_k : Int32) (a_rootTo : Nat → Int32) : Option (Int32) :=
  if (mX12_is v_k (0 : Int32) (7 : Int32)) = true then
    if xinb v_k 176 = true then
      some (a_rootTo v_k.toNatClampNeg)
    else none
  else
    some ((-1) : Int32)
def mX12_callsTo_141 (a_linkTo : Nat → Int32) (i5 : Nat) (i91 : Nat) (K91 : Int32 → Option (Int32)) : Nat → Nat → Int32 → Option (Int32)
  | 0, i141, x3_141 => K91 x3_141
  | k141 + 1, i141, x3_141 =>
    if (a_linkTo ((4 * (nI i91)) + (nI i141)).toNatClampNeg) = (nI i5) then
      mX12_callsTo_141 a_linkTo i5 i91 K91 k141 (i141 + 1) (x3_141 + 1)
    else
      mX12_callsTo_141 a_linkTo i5 i91 K91 k141 (i141 + 1) (x3_141 + 0)
def mX12_callsTo_91 (v_train : Int32) (v_car : Int32) (a_sizeOf : Nat → Int32) (a_trainOf : Nat → Int32) (a_carOf : Nat → Int32) (a_linkTo : Nat → Int32) (i5 : Nat) (K5 : Int32 → Option (Int32)) : Nat → Nat → Int32 → Option (Int32)
  | 0, i91, x3_91 => K5 x3_91
  | k91 + 1, i91, x3_91 =>
    (mX12_isThere (0 : Int32) (nI i91) a_sizeOf).bind (fun q7 =>
      if q7 = true then
        if (a_trainOf (nI i91).toNatClampNeg) = v_train then
          if v_car = (-1) then
            mX12_callsTo_91 v_train v_car a_sizeOf a_trainOf a_carOf a_linkTo i5 K5 k91 (i91 + 1) x3_91
          else
            if (a_carOf (nI i91).toNatClampNeg) = v_car then
              mX12_callsTo_91 v_train v_car a_sizeOf a_trainOf a_carOf a_linkTo i5 K5 k91 (i91 + 1) x3_91
            else
              mX12_callsTo_141 a_linkTo i5 i91 (fun zx3_91 => mX12_callsTo_91 v_train v_car a_sizeOf a_trainOf a_carOf a_linkTo i5 K5 k91 (i91 + 1) zx3_91) 4 0 x3_91
        else
          mX12_callsTo_141 a_linkTo i5 i91 (fun zx3_91 => mX12_callsTo_91 v_train v_car a_sizeOf a_trainOf a_carOf a_linkTo i5 K5 k91 (i91 + 1) zx3_91) 4 0 x3_91
      else
        mX12_callsTo_91 v_train v_car a_sizeOf a_trainOf a_carOf a_linkTo i5 K5 k91 (i91 + 1) x3_91)
def mX12_callsTo_55 (v_train : Int32) (v_car : Int32) (a_sizeOf : Nat → Int32) (a_trainOf : Nat → Int32) (a_carOf : Nat → Int32) (a_linkTo : Nat → Int32) (a_rootTo : Nat → Int32) (i5 : Nat) (K5 : Int32 → Option (Int32)) : Nat → Nat → Int32 → Option (Int32)
  | 0, i55, x3_55 => mX12_callsTo_91 v_train v_car a_sizeOf a_trainOf a_carOf a_linkTo i5 K5 40 0 x3_55
  | k55 + 1, i55, x3_55 =>
    if (a_rootTo (nI i55).toNatClampNeg) = (nI i5) then
      mX12_callsTo_55 v_train v_car a_sizeOf a_trainOf a_carOf a_linkTo a_rootTo i5 K5 k55 (i55 + 1) (x3_55 + 1)
    else
      mX12_callsTo_55 v_train v_car a_sizeOf a_trainOf a_carOf a_linkTo a_rootTo i5 K5 k55 (i55 + 1) (x3_55 + 0)
def mX12_callsTo_5 (v_train : Int32) (v_car : Int32) (a_sizeOf : Nat → Int32) (a_trainOf : Nat → Int32) (a_carOf : Nat → Int32) (a_linkTo : Nat → Int32) (a_rootTo : Nat → Int32)  : Nat → Nat → Int32 → Option (Int32)
  | 0, i5, x3_5 => some x3_5
  | k5 + 1, i5, x3_5 =>
    (mX12_isThere (0 : Int32) (nI i5) a_sizeOf).bind (fun q1 =>
      if q1 = true then
        if (a_trainOf (nI i5).toNatClampNeg) = v_train then
          if v_car = (-1) then
            mX12_callsTo_55 v_train v_car a_sizeOf a_trainOf a_carOf a_linkTo a_rootTo i5 (fun zx3_5 => mX12_callsTo_5 v_train v_car a_sizeOf a_trainOf a_carOf a_linkTo a_rootTo k5 (i5 + 1) zx3_5) 8 0 x3_5
          else
            if (a_carOf (nI i5).toNatClampNeg) = v_car then
              mX12_callsTo_55 v_train v_car a_sizeOf a_trainOf a_carOf a_linkTo a_rootTo i5 (fun zx3_5 => mX12_callsTo_5 v_train v_car a_sizeOf a_trainOf a_carOf a_linkTo a_rootTo k5 (i5 + 1) zx3_5) 8 0 x3_5
            else
              mX12_callsTo_5 v_train v_car a_sizeOf a_trainOf a_carOf a_linkTo a_rootTo k5 (i5 + 1) x3_5
        else
          mX12_callsTo_5 v_train v_car a_sizeOf a_trainOf a_carOf a_linkTo a_rootTo k5 (i5 + 1) x3_5
      else
        mX12_callsTo_5 v_train v_car a_sizeOf a_trainOf a_carOf a_linkTo a_rootTo k5 (i5 + 1) x3_5)
def mX12_callsTo (v_train : Int32) (v_car : Int32) (a_sizeOf : Nat → Int32) (a_trainOf : Nat → Int32) (a_carOf : Nat → Int32) (a_linkTo : Nat → Int32) (a_rootTo : Nat → Int32) : Option (Int32) :=
  mX12_callsTo_5 v_train v_car a_sizeOf a_trainOf a_carOf a_linkTo a_rootTo 40 0 (0 : Int32)
def mX12_train_25 (v_train : Int32) (v_what : Int32) (a_sizeOf : Nat → Int32) (a_trainOf : Nat → Int32) (a_carOf : Nat → Int32) (a_linkTo : Nat → Int32) (a_rootTo : Nat → Int32)  : Nat → Nat → Int32 → Int32 → Option (Int32)
  | 0, i25, x3_25, x4_25 => if v_what = 0 then
      (mX12_carsOf (0 : Int32) v_train a_sizeOf a_trainOf a_carOf).bind (fun q7 =>
        some q7)
    else
      if v_what = 1 then
        some x3_25
      else
        if v_what = 2 then
          some x4_25
        else
          if v_what = 3 then
            (mX12_callsTo v_train ((-1) : Int32) a_sizeOf a_trainOf a_carOf a_linkTo a_rootTo).bind (fun q11 =>
              some q11)
          else
            some ((-1) : Int32)
  | k25 + 1, i25, x3_25, x4_25 =>
    (mX12_isThere (0 : Int32) (nI i25) a_sizeOf).bind (fun q3 =>
      if q3 = true then
        if (a_trainOf (nI i25).toNatClampNeg) = v_train then
          mX12_train_25 v_train v_what a_sizeOf a_trainOf a_carOf a_linkTo a_rootTo k25 (i25 + 1) (x3_25 + 1) (x4_25 + (a_sizeOf (nI i25).toNatClampNeg))
        else
          mX12_train_25 v_train v_what a_sizeOf a_trainOf a_carOf a_linkTo a_rootTo k25 (i25 + 1) x3_25 x4_25
      else
        mX12_train_25 v_train v_what a_sizeOf a_trainOf a_carOf a_linkTo a_rootTo k25 (i25 + 1) x3_25 x4_25)
def mX12_train (v_train : Int32) (v_what : Int32) (a_sizeOf : Nat → Int32) (a_trainOf : Nat → Int32) (a_carOf : Nat → Int32) (a_linkTo : Nat → Int32) (a_rootTo : Nat → Int32) : Option (Int32) :=
  (mX12_trainsOf (0 : Int32) a_sizeOf a_trainOf).bind (fun q1 =>
    if (mX12_is v_train (0 : Int32) (q1 - 1)) = true then
      mX12_train_25 v_train v_what a_sizeOf a_trainOf a_carOf a_linkTo a_rootTo 40 0 (0 : Int32) (0 : Int32)
    else
      some ((-1) : Int32))
def mX12_car (v_train : Int32) (v_car : Int32) (v_what : Int32) (a_sizeOf : Nat → Int32) (a_trainOf : Nat → Int32) (a_carOf : Nat → Int32) (a_linkTo : Nat → Int32) (a_rootTo : Nat → Int32) : Option (Int32) :=
  (mX12_trainsOf (0 : Int32) a_sizeOf a_trainOf).bind (fun q1 =>
    if (mX12_is v_train (0 : Int32) (q1 - 1)) = true then
      (mX12_carsOf (0 : Int32) v_train a_sizeOf a_trainOf a_carOf).bind (fun q3 =>
        if (mX12_is v_car (0 : Int32) (q3 - 1)) = true then
          if v_what = 0 then
            (mX12_thingsIn (0 : Int32) v_train v_car a_sizeOf a_trainOf a_carOf).bind (fun q6 =>
              some q6)
          else
            if v_what = 1 then
              (mX12_unitsIn (0 : Int32) v_train v_car a_sizeOf a_trainOf a_carOf).bind (fun q8 =>
                some q8)
            else
              if v_what = 2 then
                (mX12_callsTo v_train v_car a_sizeOf a_trainOf a_carOf a_linkTo a_rootTo).bind (fun q10 =>
                  some q10)
              else
                some ((-1) : Int32)
        else
          some ((-1) : Int32))
    else
      some ((-1) : Int32))
def mX12_isAhead (v_y : Int32) (v_a : Int32) (v_b : Int32) (f_isHeap : Bool) (a_stepOf : Nat → Int32) : Bool :=
  if f_isHeap = true then
    if (mX12_is v_y v_a v_b) = true then
      if (999 - v_y) < (a_stepOf (0 : Int32).toNatClampNeg) then
        false
      else
        true
    else
      false
  else
    false
def mX12_falls_18 (v_thing : Int32) (f_bank : Int32) (f_isHeap : Bool) (a_unitsTold : Nat → Int32) (a_sumFrom : Nat → Int32) (a_sumBehind : Nat → Int32) (a_codeSort : Nat → Int32) (a_codeValue : Nat → Int32)  : Nat → Int32 → Int32 → Int32 → Int32 → Int32 → Bool → (Nat → Int32) → (Nat → Int32) → (Nat → Int32) → (Nat → Int32) → (Nat → Int32) → (Nat → Int32) → (Nat → Int32) → (Nat → Int32) → (Nat → Int32) → (Nat → Int32) → (Nat → Int32) → (Nat → Int64) → (Nat → Int32) → (Nat → Int32) → (Nat → Int32) → (Nat → Int32) → (Nat → Int32) → Option (Int32 × Int32 × Int32 × Int32 × Int32 × Bool × (Nat → Int32) × (Nat → Int32) × (Nat → Int32) × (Nat → Int32) × (Nat → Int32) × (Nat → Int32) × (Nat → Int32) × (Nat → Int32) × (Nat → Int32) × (Nat → Int32) × (Nat → Int32) × (Nat → Int64) × (Nat → Int32) × (Nat → Int32) × (Nat → Int32) × (Nat → Int32) × (Nat → Int32))
  | 0, x2_18, f_ruleNow_18, f_fell_18, f_went_18, f_cost_18, f_isFutile_18, a_stepOf_18, a_sizeOf_18, a_trainOf_18, a_carOf_18, a_placeOf_18, a_ageOf_18, a_markOf_18, a_linkTo_18, a_rootTo_18, a_keptMany_18, a_keptRow_18, a_stack_18, a_asked_18, a_newPlace_18, a_isMoved_18, a_isStaying_18, a_stayTrain_18 => none
  | k18 + 1, x2_18, f_ruleNow_18, f_fell_18, f_went_18, f_cost_18, f_isFutile_18, a_stepOf_18, a_sizeOf_18, a_trainOf_18, a_carOf_18, a_placeOf_18, a_ageOf_18, a_markOf_18, a_linkTo_18, a_rootTo_18, a_keptMany_18, a_keptRow_18, a_stack_18, a_asked_18, a_newPlace_18, a_isMoved_18, a_isStaying_18, a_stayTrain_18 =>
    if (mX12_isAhead x2_18 (1 : Int32) (60 : Int32) f_isHeap a_stepOf_18) = true then
      (mX12_ticks (1 : Int32) f_bank f_ruleNow_18 a_unitsTold a_sumFrom a_sumBehind a_codeSort a_codeValue a_stepOf_18 a_sizeOf_18 a_trainOf_18 a_carOf_18 a_placeOf_18 a_ageOf_18 a_markOf_18 a_linkTo_18 a_rootTo_18 a_keptMany_18 a_keptRow_18 a_stack_18 a_asked_18 a_newPlace_18 a_isMoved_18 a_isStaying_18 a_stayTrain_18).bind (xu fun q5_1 => xu fun q5_2 => xu fun q5_3 => xu fun q5_4 => xu fun q5_5 => xu fun q5_6 => xu fun q5_7 => xu fun q5_8 => xu fun q5_9 => xu fun q5_10 => xu fun q5_11 => xu fun q5_12 => xu fun q5_13 => xu fun q5_14 => xu fun q5_15 => xu fun q5_16 => xu fun q5_17 => xu fun q5_18 => xu fun q5_19 => xu fun q5_20 => fun q5_21 =>
        (mX12_isThere (1 : Int32) v_thing q5_7).bind (fun q6 =>
          if q6 = true then
            mX12_falls_18 v_thing f_bank f_isHeap a_unitsTold a_sumFrom a_sumBehind a_codeSort a_codeValue k18 (x2_18 + 1) q5_1 q5_2 q5_3 q5_4 q5_5 q5_6 q5_7 q5_8 q5_9 q5_10 q5_11 q5_12 q5_13 a_rootTo_18 q5_14 q5_15 q5_16 q5_17 q5_18 q5_19 q5_20 q5_21
          else
            some (x2_18, q5_1, q5_2, q5_3, q5_4, q5_5, q5_6, q5_7, q5_8, q5_9, q5_10, q5_11, q5_12, q5_13, a_rootTo_18, q5_14, q5_15, q5_16, q5_17, q5_18, q5_19, q5_20, q5_21)))
    else
      some (((-1) : Int32), f_ruleNow_18, f_fell_18, f_went_18, f_cost_18, f_isFutile_18, a_stepOf_18, a_sizeOf_18, a_trainOf_18, a_carOf_18, a_placeOf_18, a_ageOf_18, a_markOf_18, a_linkTo_18, a_rootTo_18, a_keptMany_18, a_keptRow_18, a_stack_18, a_asked_18, a_newPlace_18, a_isMoved_18, a_isStaying_18, a_stayTrain_18)
def mX12_falls (v_thing : Int32) (f_bank : Int32) (f_isHeap : Bool) (f_ruleNow : Int32) (f_fell : Int32) (f_went : Int32) (f_cost : Int32) (f_isFutile : Bool) (a_unitsTold : Nat → Int32) (a_sumFrom : Nat → Int32) (a_sumBehind : Nat → Int32) (a_codeSort : Nat → Int32) (a_codeValue : Nat → Int32) (a_stepOf : Nat → Int32) (a_sizeOf : Nat → Int32) (a_trainOf : Nat → Int32) (a_carOf : Nat → Int32) (a_placeOf : Nat → Int32) (a_ageOf : Nat → Int32) (a_markOf : Nat → Int32) (a_linkTo : Nat → Int32) (a_rootTo : Nat → Int32) (a_keptMany : Nat → Int32) (a_keptRow : Nat → Int32) (a_stack : Nat → Int64) (a_asked : Nat → Int32) (a_newPlace : Nat → Int32) (a_isMoved : Nat → Int32) (a_isStaying : Nat → Int32) (a_stayTrain : Nat → Int32) : Option (Int32 × Int32 × Int32 × Int32 × Int32 × Bool × (Nat → Int32) × (Nat → Int32) × (Nat → Int32) × (Nat → Int32) × (Nat → Int32) × (Nat → Int32) × (Nat → Int32) × (Nat → Int32) × (Nat → Int32) × (Nat → Int32) × (Nat → Int32) × (Nat → Int64) × (Nat → Int32) × (Nat → Int32) × (Nat → Int32) × (Nat → Int32) × (Nat → Int32)) :=
  (mX12_isThing v_thing a_sizeOf).bind (fun q1 =>
    if q1 = true then
      (mX12_copies (1 : Int32) (0 : Int32) a_stepOf a_sizeOf a_trainOf a_carOf a_placeOf a_ageOf a_markOf a_linkTo a_rootTo a_keptMany a_keptRow).bind (xu fun q3_1 => xu fun q3_2 => xu fun q3_3 => xu fun q3_4 => xu fun q3_5 => xu fun q3_6 => xu fun q3_7 => xu fun q3_8 => xu fun q3_9 => xu fun q3_10 => fun q3_11 =>
        mX12_falls_18 v_thing f_bank f_isHeap a_unitsTold a_sumFrom a_sumBehind a_codeSort a_codeValue xfuel (1 : Int32) f_ruleNow f_fell f_went f_cost f_isFutile q3_1 q3_2 q3_3 q3_4 q3_5 q3_6 q3_7 q3_8 q3_9 q3_10 q3_11 a_stack a_asked a_newPlace a_isMoved a_isStaying a_stayTrain)
    else
      some (((-1) : Int32), f_ruleNow, f_fell, f_went, f_cost, f_isFutile, a_stepOf, a_sizeOf, a_trainOf, a_carOf, a_placeOf, a_ageOf, a_markOf, a_linkTo, a_rootTo, a_keptMany, a_keptRow, a_stack, a_asked, a_newPlace, a_isMoved, a_isStaying, a_stayTrain))
def mX12_clean_83 (f_bank : Int32) (a_unitsTold : Nat → Int32) (a_sumFrom : Nat → Int32) (a_sumBehind : Nat → Int32) (a_codeSort : Nat → Int32) (a_codeValue : Nat → Int32) (a_ageOf_68 : Nat → Int32) (a_asked_68 : Nat → Int32) (a_carOf_68 : Nat → Int32) (a_farOf_68 : Nat → Int32) (a_isMoved_68 : Nat → Int32) (a_isRubbish_68 : Nat → Int32) (a_isStaying_68 : Nat → Int32) (a_keptMany_68 : Nat → Int32) (a_keptRow_68 : Nat → Int32) (a_linkTo_68 : Nat → Int32) (a_markOf_68 : Nat → Int32) (a_newPlace_68 : Nat → Int32) (a_placeOf_68 : Nat → Int32) (a_queue_68 : Nat → Int32) (a_rootTo_68 : Nat → Int32) (a_sizeOf_68 : Nat → Int32) (a_stack_68 : Nat → Int64) (a_stayTrain_68 : Nat → Int32) (a_stepOf_68 : Nat → Int32) (a_trainOf_68 : Nat → Int32) (f_cost_68 : Int32) (f_fell_68 : Int32) (f_isFutile_68 : Bool) (f_ruleNow_68 : Int32) (f_went_68 : Int32) (x1_68 : Int32) (K68 : Int32 → Int32 → Int32 → Int32 → Int32 → Bool → (Nat → Int32) → (Nat → Int32) → (Nat → Int32) → (Nat → Int32) → (Nat → Int32) → (Nat → Int32) → (Nat → Int32) → (Nat → Int32) → (Nat → Int32) → (Nat → Int32) → (Nat → Int32) → (Nat → Int64) → (Nat → Int32) → (Nat → Int32) → (Nat → Int32) → (Nat → Int32) → (Nat → Int32) → (Nat → Int32) → (Nat → Int32) → (Nat → Int32) → Option (Int32 × Int32 × Int32 × Int32 × Int32 × Bool × (Nat → Int32) × (Nat → Int32) × (Nat → Int32) × (Nat → Int32) × (Nat → Int32) × (Nat → Int32) × (Nat → Int32) × (Nat → Int32) × (Nat → Int32) × (Nat → Int32) × (Nat → Int32) × (Nat → Int64) × (Nat → Int32) × (Nat → Int32) × (Nat → Int32) × (Nat → Int32) × (Nat → Int32) × (Nat → Int32) × (Nat → Int32) × (Nat → Int32))) : Nat → Nat → Int32 → Option (Int32 × Int32 × Int32 × Int32 × Int32 × Bool × (Nat → Int32) × (Nat → Int32) × (Nat → Int32) × (Nat → Int32) × (Nat → Int32) × (Nat → Int32) × (Nat → Int32) × (Nat → Int32) × (Nat → Int32) × (Nat → Int32) × (Nat → Int32) × (Nat → Int64) × (Nat → Int32) × (Nat → Int32) × (Nat → Int32) × (Nat → Int32) × (Nat → Int32) × (Nat → Int32) × (Nat → Int32) × (Nat → Int32))
  | 0, i83, x2_83 => if x2_83 = 0 then
      (mX12_ticks (1 : Int32) f_bank f_ruleNow_68 a_unitsTold a_sumFrom a_sumBehind a_codeSort a_codeValue a_stepOf_68 a_sizeOf_68 a_trainOf_68 a_carOf_68 a_placeOf_68 a_ageOf_68 a_markOf_68 a_linkTo_68 a_rootTo_68 a_keptMany_68 a_keptRow_68 a_stack_68 a_asked_68 a_newPlace_68 a_isMoved_68 a_isStaying_68 a_stayTrain_68).bind (xu fun q12_1 => xu fun q12_2 => xu fun q12_3 => xu fun q12_4 => xu fun q12_5 => xu fun q12_6 => xu fun q12_7 => xu fun q12_8 => xu fun q12_9 => xu fun q12_10 => xu fun q12_11 => xu fun q12_12 => xu fun q12_13 => xu fun q12_14 => xu fun q12_15 => xu fun q12_16 => xu fun q12_17 => xu fun q12_18 => xu fun q12_19 => xu fun q12_20 => fun q12_21 =>
        K68 (x1_68 + 1) q12_1 q12_2 q12_3 q12_4 q12_5 q12_6 q12_7 q12_8 q12_9 q12_10 q12_11 q12_12 q12_13 a_rootTo_68 q12_14 q12_15 q12_16 q12_17 q12_18 q12_19 q12_20 q12_21 a_farOf_68 a_queue_68 a_isRubbish_68)
    else
      some (x1_68, f_ruleNow_68, f_fell_68, f_went_68, f_cost_68, f_isFutile_68, a_stepOf_68, a_sizeOf_68, a_trainOf_68, a_carOf_68, a_placeOf_68, a_ageOf_68, a_markOf_68, a_linkTo_68, a_rootTo_68, a_keptMany_68, a_keptRow_68, a_stack_68, a_asked_68, a_newPlace_68, a_isMoved_68, a_isStaying_68, a_stayTrain_68, a_farOf_68, a_queue_68, a_isRubbish_68)
  | k83 + 1, i83, x2_83 =>
    if (a_isRubbish_68 (nI i83).toNatClampNeg) = 0 then
      mX12_clean_83 f_bank a_unitsTold a_sumFrom a_sumBehind a_codeSort a_codeValue a_ageOf_68 a_asked_68 a_carOf_68 a_farOf_68 a_isMoved_68 a_isRubbish_68 a_isStaying_68 a_keptMany_68 a_keptRow_68 a_linkTo_68 a_markOf_68 a_newPlace_68 a_placeOf_68 a_queue_68 a_rootTo_68 a_sizeOf_68 a_stack_68 a_stayTrain_68 a_stepOf_68 a_trainOf_68 f_cost_68 f_fell_68 f_isFutile_68 f_ruleNow_68 f_went_68 x1_68 K68 k83 (i83 + 1) (x2_83 &&& 1)
    else
      (mX12_isThere (1 : Int32) (nI i83) a_sizeOf_68).bind (fun q9 =>
        if q9 = true then
          mX12_clean_83 f_bank a_unitsTold a_sumFrom a_sumBehind a_codeSort a_codeValue a_ageOf_68 a_asked_68 a_carOf_68 a_farOf_68 a_isMoved_68 a_isRubbish_68 a_isStaying_68 a_keptMany_68 a_keptRow_68 a_linkTo_68 a_markOf_68 a_newPlace_68 a_placeOf_68 a_queue_68 a_rootTo_68 a_sizeOf_68 a_stack_68 a_stayTrain_68 a_stepOf_68 a_trainOf_68 f_cost_68 f_fell_68 f_isFutile_68 f_ruleNow_68 f_went_68 x1_68 K68 k83 (i83 + 1) (x2_83 &&& 0)
        else
          mX12_clean_83 f_bank a_unitsTold a_sumFrom a_sumBehind a_codeSort a_codeValue a_ageOf_68 a_asked_68 a_carOf_68 a_farOf_68 a_isMoved_68 a_isRubbish_68 a_isStaying_68 a_keptMany_68 a_keptRow_68 a_linkTo_68 a_markOf_68 a_newPlace_68 a_placeOf_68 a_queue_68 a_rootTo_68 a_sizeOf_68 a_stack_68 a_stayTrain_68 a_stepOf_68 a_trainOf_68 f_cost_68 f_fell_68 f_isFutile_68 f_ruleNow_68 f_went_68 x1_68 K68 k83 (i83 + 1) (x2_83 &&& 1))
def mX12_clean_68 (f_bank : Int32) (f_isHeap : Bool) (a_unitsTold : Nat → Int32) (a_sumFrom : Nat → Int32) (a_sumBehind : Nat → Int32) (a_codeSort : Nat → Int32) (a_codeValue : Nat → Int32)  : Nat → Int32 → Int32 → Int32 → Int32 → Int32 → Bool → (Nat → Int32) → (Nat → Int32) → (Nat → Int32) → (Nat → Int32) → (Nat → Int32) → (Nat → Int32) → (Nat → Int32) → (Nat → Int32) → (Nat → Int32) → (Nat → Int32) → (Nat → Int32) → (Nat → Int64) → (Nat → Int32) → (Nat → Int32) → (Nat → Int32) → (Nat → Int32) → (Nat → Int32) → (Nat → Int32) → (Nat → Int32) → (Nat → Int32) → Option (Int32 × Int32 × Int32 × Int32 × Int32 × Bool × (Nat → Int32) × (Nat → Int32) × (Nat → Int32) × (Nat → Int32) × (Nat → Int32) × (Nat → Int32) × (Nat → Int32) × (Nat → Int32) × (Nat → Int32) × (Nat → Int32) × (Nat → Int32) × (Nat → Int64) × (Nat → Int32) × (Nat → Int32) × (Nat → Int32) × (Nat → Int32) × (Nat → Int32) × (Nat → Int32) × (Nat → Int32) × (Nat → Int32))
  | 0, x1_68, f_ruleNow_68, f_fell_68, f_went_68, f_cost_68, f_isFutile_68, a_stepOf_68, a_sizeOf_68, a_trainOf_68, a_carOf_68, a_placeOf_68, a_ageOf_68, a_markOf_68, a_linkTo_68, a_rootTo_68, a_keptMany_68, a_keptRow_68, a_stack_68, a_asked_68, a_newPlace_68, a_isMoved_68, a_isStaying_68, a_stayTrain_68, a_farOf_68, a_queue_68, a_isRubbish_68 => none
  | k68 + 1, x1_68, f_ruleNow_68, f_fell_68, f_went_68, f_cost_68, f_isFutile_68, a_stepOf_68, a_sizeOf_68, a_trainOf_68, a_carOf_68, a_placeOf_68, a_ageOf_68, a_markOf_68, a_linkTo_68, a_rootTo_68, a_keptMany_68, a_keptRow_68, a_stack_68, a_asked_68, a_newPlace_68, a_isMoved_68, a_isStaying_68, a_stayTrain_68, a_farOf_68, a_queue_68, a_isRubbish_68 =>
    if (mX12_isAhead x1_68 (0 : Int32) (60 : Int32) f_isHeap a_stepOf_68) = true then
      mX12_clean_83 f_bank a_unitsTold a_sumFrom a_sumBehind a_codeSort a_codeValue a_ageOf_68 a_asked_68 a_carOf_68 a_farOf_68 a_isMoved_68 a_isRubbish_68 a_isStaying_68 a_keptMany_68 a_keptRow_68 a_linkTo_68 a_markOf_68 a_newPlace_68 a_placeOf_68 a_queue_68 a_rootTo_68 a_sizeOf_68 a_stack_68 a_stayTrain_68 a_stepOf_68 a_trainOf_68 f_cost_68 f_fell_68 f_isFutile_68 f_ruleNow_68 f_went_68 x1_68 (fun zx1_68 zf_ruleNow_68 zf_fell_68 zf_went_68 zf_cost_68 zf_isFutile_68 za_stepOf_68 za_sizeOf_68 za_trainOf_68 za_carOf_68 za_placeOf_68 za_ageOf_68 za_markOf_68 za_linkTo_68 za_rootTo_68 za_keptMany_68 za_keptRow_68 za_stack_68 za_asked_68 za_newPlace_68 za_isMoved_68 za_isStaying_68 za_stayTrain_68 za_farOf_68 za_queue_68 za_isRubbish_68 => mX12_clean_68 f_bank f_isHeap a_unitsTold a_sumFrom a_sumBehind a_codeSort a_codeValue k68 zx1_68 zf_ruleNow_68 zf_fell_68 zf_went_68 zf_cost_68 zf_isFutile_68 za_stepOf_68 za_sizeOf_68 za_trainOf_68 za_carOf_68 za_placeOf_68 za_ageOf_68 za_markOf_68 za_linkTo_68 za_rootTo_68 za_keptMany_68 za_keptRow_68 za_stack_68 za_asked_68 za_newPlace_68 za_isMoved_68 za_isStaying_68 za_stayTrain_68 za_farOf_68 za_queue_68 za_isRubbish_68) 40 0 (1 : Int32)
    else
      some (((-1) : Int32), f_ruleNow_68, f_fell_68, f_went_68, f_cost_68, f_isFutile_68, a_stepOf_68, a_sizeOf_68, a_trainOf_68, a_carOf_68, a_placeOf_68, a_ageOf_68, a_markOf_68, a_linkTo_68, a_rootTo_68, a_keptMany_68, a_keptRow_68, a_stack_68, a_asked_68, a_newPlace_68, a_isMoved_68, a_isStaying_68, a_stayTrain_68, a_farOf_68, a_queue_68, a_isRubbish_68)
def mX12_clean_16 (f_bank : Int32) (f_isHeap : Bool) (f_ruleNow : Int32) (f_fell : Int32) (f_went : Int32) (f_cost : Int32) (f_isFutile : Bool) (a_unitsTold : Nat → Int32) (a_sumFrom : Nat → Int32) (a_sumBehind : Nat → Int32) (a_codeSort : Nat → Int32) (a_codeValue : Nat → Int32) (a_stepOf : Nat → Int32) (a_sizeOf : Nat → Int32) (a_trainOf : Nat → Int32) (a_carOf : Nat → Int32) (a_placeOf : Nat → Int32) (a_ageOf : Nat → Int32) (a_markOf : Nat → Int32) (a_linkTo : Nat → Int32) (a_rootTo : Nat → Int32) (a_keptMany : Nat → Int32) (a_keptRow : Nat → Int32) (a_stack : Nat → Int64) (a_asked : Nat → Int32) (a_newPlace : Nat → Int32) (a_isMoved : Nat → Int32) (a_isStaying : Nat → Int32) (a_stayTrain : Nat → Int32)  : Nat → Nat → (Nat → Int32) → (Nat → Int32) → (Nat → Int32) → Option (Int32 × Int32 × Int32 × Int32 × Int32 × Bool × (Nat → Int32) × (Nat → Int32) × (Nat → Int32) × (Nat → Int32) × (Nat → Int32) × (Nat → Int32) × (Nat → Int32) × (Nat → Int32) × (Nat → Int32) × (Nat → Int32) × (Nat → Int32) × (Nat → Int64) × (Nat → Int32) × (Nat → Int32) × (Nat → Int32) × (Nat → Int32) × (Nat → Int32) × (Nat → Int32) × (Nat → Int32) × (Nat → Int32))
  | 0, i16, a_farOf_16, a_queue_16, a_isRubbish_16 => (mX12_copies (1 : Int32) (0 : Int32) a_stepOf a_sizeOf a_trainOf a_carOf a_placeOf a_ageOf a_markOf a_linkTo a_rootTo a_keptMany a_keptRow).bind (xu fun q6_1 => xu fun q6_2 => xu fun q6_3 => xu fun q6_4 => xu fun q6_5 => xu fun q6_6 => xu fun q6_7 => xu fun q6_8 => xu fun q6_9 => xu fun q6_10 => fun q6_11 =>
      mX12_clean_68 f_bank f_isHeap a_unitsTold a_sumFrom a_sumBehind a_codeSort a_codeValue xfuel (0 : Int32) f_ruleNow f_fell f_went f_cost f_isFutile q6_1 q6_2 q6_3 q6_4 q6_5 q6_6 q6_7 q6_8 q6_9 q6_10 q6_11 a_stack a_asked a_newPlace a_isMoved a_isStaying a_stayTrain a_farOf_16 a_queue_16 a_isRubbish_16)
  | k16 + 1, i16, a_farOf_16, a_queue_16, a_isRubbish_16 =>
    (mX12_isThere (0 : Int32) (nI i16) a_sizeOf).bind (fun q3 =>
      if q3 = true then
        if (a_farOf_16 (nI i16).toNatClampNeg) = 100000000 then
          mX12_clean_16 f_bank f_isHeap f_ruleNow f_fell f_went f_cost f_isFutile a_unitsTold a_sumFrom a_sumBehind a_codeSort a_codeValue a_stepOf a_sizeOf a_trainOf a_carOf a_placeOf a_ageOf a_markOf a_linkTo a_rootTo a_keptMany a_keptRow a_stack a_asked a_newPlace a_isMoved a_isStaying a_stayTrain k16 (i16 + 1) a_farOf_16 a_queue_16 (upd a_isRubbish_16 (nI i16).toNatClampNeg 1)
        else
          mX12_clean_16 f_bank f_isHeap f_ruleNow f_fell f_went f_cost f_isFutile a_unitsTold a_sumFrom a_sumBehind a_codeSort a_codeValue a_stepOf a_sizeOf a_trainOf a_carOf a_placeOf a_ageOf a_markOf a_linkTo a_rootTo a_keptMany a_keptRow a_stack a_asked a_newPlace a_isMoved a_isStaying a_stayTrain k16 (i16 + 1) a_farOf_16 a_queue_16 (upd a_isRubbish_16 (nI i16).toNatClampNeg 0)
      else
        mX12_clean_16 f_bank f_isHeap f_ruleNow f_fell f_went f_cost f_isFutile a_unitsTold a_sumFrom a_sumBehind a_codeSort a_codeValue a_stepOf a_sizeOf a_trainOf a_carOf a_placeOf a_ageOf a_markOf a_linkTo a_rootTo a_keptMany a_keptRow a_stack a_asked a_newPlace a_isMoved a_isStaying a_stayTrain k16 (i16 + 1) a_farOf_16 a_queue_16 (upd a_isRubbish_16 (nI i16).toNatClampNeg 0))
def mX12_clean (f_bank : Int32) (f_isHeap : Bool) (f_ruleNow : Int32) (f_fell : Int32) (f_went : Int32) (f_cost : Int32) (f_isFutile : Bool) (a_unitsTold : Nat → Int32) (a_sumFrom : Nat → Int32) (a_sumBehind : Nat → Int32) (a_codeSort : Nat → Int32) (a_codeValue : Nat → Int32) (a_stepOf : Nat → Int32) (a_sizeOf : Nat → Int32) (a_trainOf : Nat → Int32) (a_carOf : Nat → Int32) (a_placeOf : Nat → Int32) (a_ageOf : Nat → Int32) (a_markOf : Nat → Int32) (a_linkTo : Nat → Int32) (a_rootTo : Nat → Int32) (a_keptMany : Nat → Int32) (a_keptRow : Nat → Int32) (a_stack : Nat → Int64) (a_asked : Nat → Int32) (a_newPlace : Nat → Int32) (a_isMoved : Nat → Int32) (a_isStaying : Nat → Int32) (a_stayTrain : Nat → Int32) (a_farOf : Nat → Int32) (a_queue : Nat → Int32) (a_isRubbish : Nat → Int32) : Option (Int32 × Int32 × Int32 × Int32 × Int32 × Bool × (Nat → Int32) × (Nat → Int32) × (Nat → Int32) × (Nat → Int32) × (Nat → Int32) × (Nat → Int32) × (Nat → Int32) × (Nat → Int32) × (Nat → Int32) × (Nat → Int32) × (Nat → Int32) × (Nat → Int64) × (Nat → Int32) × (Nat → Int32) × (Nat → Int32) × (Nat → Int32) × (Nat → Int32) × (Nat → Int32) × (Nat → Int32) × (Nat → Int32)) :=
  if f_isHeap = true then
    (mX12_livesNow a_linkTo a_rootTo a_farOf a_queue).bind (xu fun q2_1 => xu fun q2_2 => fun q2_3 =>
      mX12_clean_16 f_bank f_isHeap f_ruleNow f_fell f_went f_cost f_isFutile a_unitsTold a_sumFrom a_sumBehind a_codeSort a_codeValue a_stepOf a_sizeOf a_trainOf a_carOf a_placeOf a_ageOf a_markOf a_linkTo a_rootTo a_keptMany a_keptRow a_stack a_asked a_newPlace a_isMoved a_isStaying a_stayTrain 40 0 q2_2 q2_3 a_isRubbish)
  else
    some ((0 : Int32), f_ruleNow, f_fell, f_went, f_cost, f_isFutile, a_stepOf, a_sizeOf, a_trainOf, a_carOf, a_placeOf, a_ageOf, a_markOf, a_linkTo, a_rootTo, a_keptMany, a_keptRow, a_stack, a_asked, a_newPlace, a_isMoved, a_isStaying, a_stayTrain, a_farOf, a_queue, a_isRubbish)
