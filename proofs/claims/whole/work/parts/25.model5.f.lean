def mX12_refsOf_79 (v_v : Int32) (v_t : Int32) (a_linkTo : Nat → Int32) (i45 : Nat) (K45 : Int32 → Option (Int32)) : Nat → Nat → Int32 → Option (Int32)
  | 0, i79, x3_79 => K45 x3_79
  | k79 + 1, i79, x3_79 =>
    if xinb ((4 * ((40 * v_v) + (nI i45))) + (nI i79)) 3520 = true then
      if (a_linkTo ((4 * ((40 * v_v) + (nI i45))) + (nI i79)).toNatClampNeg) = v_t then
        mX12_refsOf_79 v_v v_t a_linkTo i45 K45 k79 (i79 + 1) (x3_79 + 1)
      else
        mX12_refsOf_79 v_v v_t a_linkTo i45 K45 k79 (i79 + 1) (x3_79 + 0)
    else none
def mX12_refsOf_45 (v_v : Int32) (v_t : Int32) (a_sizeOf : Nat → Int32) (a_trainOf : Nat → Int32) (a_carOf : Nat → Int32) (a_linkTo : Nat → Int32) (a_isStaying : Nat → Int32)  : Nat → Nat → Int32 → Option (Int32)
  | 0, i45, x3_45 => some x3_45
  | k45 + 1, i45, x3_45 =>
    (mX12_isThere v_v (nI i45) a_sizeOf).bind (fun q3 =>
      if q3 = true then
        (mX12_areTogether v_v (nI i45) v_t a_trainOf a_carOf a_isStaying).bind (fun q5 =>
          if q5 = true then
            mX12_refsOf_45 v_v v_t a_sizeOf a_trainOf a_carOf a_linkTo a_isStaying k45 (i45 + 1) x3_45
          else
            mX12_refsOf_79 v_v v_t a_linkTo i45 (fun zx3_45 => mX12_refsOf_45 v_v v_t a_sizeOf a_trainOf a_carOf a_linkTo a_isStaying k45 (i45 + 1) zx3_45) 4 0 x3_45)
      else
        mX12_refsOf_45 v_v v_t a_sizeOf a_trainOf a_carOf a_linkTo a_isStaying k45 (i45 + 1) x3_45)
def mX12_refsOf_5 (v_v : Int32) (v_t : Int32) (a_sizeOf : Nat → Int32) (a_trainOf : Nat → Int32) (a_carOf : Nat → Int32) (a_linkTo : Nat → Int32) (a_rootTo : Nat → Int32) (a_isStaying : Nat → Int32)  : Nat → Nat → Int32 → Option (Int32)
  | 0, i5, x3_5 => mX12_refsOf_45 v_v v_t a_sizeOf a_trainOf a_carOf a_linkTo a_isStaying 40 0 x3_5
  | k5 + 1, i5, x3_5 =>
    if xinb ((8 * v_v) + (nI i5)) 176 = true then
      if (a_rootTo ((8 * v_v) + (nI i5)).toNatClampNeg) = v_t then
        mX12_refsOf_5 v_v v_t a_sizeOf a_trainOf a_carOf a_linkTo a_rootTo a_isStaying k5 (i5 + 1) (x3_5 + 1)
      else
        mX12_refsOf_5 v_v v_t a_sizeOf a_trainOf a_carOf a_linkTo a_rootTo a_isStaying k5 (i5 + 1) (x3_5 + 0)
    else none
def mX12_refsOf (v_v : Int32) (v_t : Int32) (a_sizeOf : Nat → Int32) (a_trainOf : Nat → Int32) (a_carOf : Nat → Int32) (a_linkTo : Nat → Int32) (a_rootTo : Nat → Int32) (a_isStaying : Nat → Int32) : Option (Int32) :=
  mX12_refsOf_5 v_v v_t a_sizeOf a_trainOf a_carOf a_linkTo a_rootTo a_isStaying 8 0 (0 : Int32)
def mX12_isLinked_3 (v_v : Int32) (v_u : Int32) (v_t : Int32) (a_linkTo : Nat → Int32)  : Nat → Nat → Option (Bool)
  | 0, i3 => some false
  | k3 + 1, i3 =>
    if xinb ((4 * ((40 * v_v) + v_u)) + (nI i3)) 3520 = true then
      if (a_linkTo ((4 * ((40 * v_v) + v_u)) + (nI i3)).toNatClampNeg) = v_t then
        some true
      else
        mX12_isLinked_3 v_v v_u v_t a_linkTo k3 (i3 + 1)
    else none
def mX12_isLinked (v_v : Int32) (v_u : Int32) (v_t : Int32) (a_linkTo : Nat → Int32) : Option (Bool) :=
  mX12_isLinked_3 v_v v_u v_t a_linkTo 4 0
def mX12_calling_5 (v_v : Int32) (v_t : Int32) (a_sizeOf : Nat → Int32) (a_trainOf : Nat → Int32) (a_linkTo : Nat → Int32) (a_isStaying : Nat → Int32) (a_stayTrain : Nat → Int32)  : Nat → Nat → Int32 → Option (Int32)
  | 0, i5, x3_5 => some x3_5
  | k5 + 1, i5, x3_5 =>
    (mX12_isThere v_v (nI i5) a_sizeOf).bind (fun q1 =>
      if q1 = true then
        (mX12_isLinked v_v (nI i5) v_t a_linkTo).bind (fun q3 =>
          if q3 = true then
            (mX12_trainNow v_v (nI i5) a_trainOf a_isStaying a_stayTrain).bind (fun q5 =>
              if q5 = 0 then
                mX12_calling_5 v_v v_t a_sizeOf a_trainOf a_linkTo a_isStaying a_stayTrain k5 (i5 + 1) x3_5
              else
                if x3_5 = (-1) then
                  mX12_calling_5 v_v v_t a_sizeOf a_trainOf a_linkTo a_isStaying a_stayTrain k5 (i5 + 1) q5
                else
                  if q5 < x3_5 then
                    mX12_calling_5 v_v v_t a_sizeOf a_trainOf a_linkTo a_isStaying a_stayTrain k5 (i5 + 1) q5
                  else
                    mX12_calling_5 v_v v_t a_sizeOf a_trainOf a_linkTo a_isStaying a_stayTrain k5 (i5 + 1) x3_5)
          else
            mX12_calling_5 v_v v_t a_sizeOf a_trainOf a_linkTo a_isStaying a_stayTrain k5 (i5 + 1) x3_5)
      else
        mX12_calling_5 v_v v_t a_sizeOf a_trainOf a_linkTo a_isStaying a_stayTrain k5 (i5 + 1) x3_5)
def mX12_calling (v_v : Int32) (v_t : Int32) (a_sizeOf : Nat → Int32) (a_trainOf : Nat → Int32) (a_linkTo : Nat → Int32) (a_isStaying : Nat → Int32) (a_stayTrain : Nat → Int32) : Option (Int32) :=
  mX12_calling_5 v_v v_t a_sizeOf a_trainOf a_linkTo a_isStaying a_stayTrain 40 0 ((-1) : Int32)
def mX12_isWaiting (v_v : Int32) (v_t : Int32) (a_sizeOf : Nat → Int32) (a_trainOf : Nat → Int32) (a_carOf : Nat → Int32) (a_isStaying : Nat → Int32) : Option (Bool) :=
  (mX12_isIn v_v v_t (0 : Int32) (0 : Int32) a_sizeOf a_trainOf a_carOf).bind (fun q1 =>
    if q1 = true then
      if xinb v_t 40 = true then
        if (a_isStaying v_t.toNatClampNeg) = 0 then
          some true
        else
          some false
      else none
    else
      some false)
def mX12_isCalledBeside_2 (v_v : Int32) (v_t : Int32) (a_sizeOf : Nat → Int32) (a_trainOf : Nat → Int32) (a_carOf : Nat → Int32) (a_linkTo : Nat → Int32) (a_isStaying : Nat → Int32) (a_stayTrain : Nat → Int32)  : Nat → Nat → Option (Bool)
  | 0, i2 => some false
  | k2 + 1, i2 =>
    (mX12_isThere v_v (nI i2) a_sizeOf).bind (fun q1 =>
      if q1 = true then
        (mX12_isLinked v_v (nI i2) v_t a_linkTo).bind (fun q3 =>
          if q3 = true then
            (mX12_trainNow v_v (nI i2) a_trainOf a_isStaying a_stayTrain).bind (fun q5 =>
              if q5 = 0 then
                (mX12_isWaiting v_v (nI i2) a_sizeOf a_trainOf a_carOf a_isStaying).bind (fun q7 =>
                  if q7 = true then
                    mX12_isCalledBeside_2 v_v v_t a_sizeOf a_trainOf a_carOf a_linkTo a_isStaying a_stayTrain k2 (i2 + 1)
                  else
                    some true)
              else
                mX12_isCalledBeside_2 v_v v_t a_sizeOf a_trainOf a_carOf a_linkTo a_isStaying a_stayTrain k2 (i2 + 1))
          else
            mX12_isCalledBeside_2 v_v v_t a_sizeOf a_trainOf a_carOf a_linkTo a_isStaying a_stayTrain k2 (i2 + 1))
      else
        mX12_isCalledBeside_2 v_v v_t a_sizeOf a_trainOf a_carOf a_linkTo a_isStaying a_stayTrain k2 (i2 + 1))
def mX12_isCalledBeside (v_v : Int32) (v_t : Int32) (a_sizeOf : Nat → Int32) (a_trainOf : Nat → Int32) (a_carOf : Nat → Int32) (a_linkTo : Nat → Int32) (a_isStaying : Nat → Int32) (a_stayTrain : Nat → Int32) : Option (Bool) :=
  mX12_isCalledBeside_2 v_v v_t a_sizeOf a_trainOf a_carOf a_linkTo a_isStaying a_stayTrain 40 0
def mX12_layThing (v_v : Int32) (v_t : Int32) (a_stepOf : Nat → Int32) (a_sizeOf : Nat → Int32) (a_trainOf : Nat → Int32) (a_carOf : Nat → Int32) (a_ageOf : Nat → Int32) (a_linkTo : Nat → Int32) (a_rootTo : Nat → Int32) (a_asked : Nat → Int32) (a_isStaying : Nat → Int32) : Option ((Nat → Int32)) :=
  if xinb v_v 22 = true then
    if xinb ((40 * v_v) + v_t) 880 = true then
      (mX12_refsOf v_v v_t a_sizeOf a_trainOf a_carOf a_linkTo a_rootTo a_isStaying).bind (fun q3 =>
        some (upd (upd (upd (upd a_asked (1 : Int32).toNatClampNeg (a_stepOf v_v.toNatClampNeg)) (2 : Int32).toNatClampNeg (a_sizeOf ((40 * v_v) + v_t).toNatClampNeg)) (3 : Int32).toNatClampNeg q3) (4 : Int32).toNatClampNeg (a_ageOf ((40 * v_v) + v_t).toNatClampNeg)))
    else none
  else none
def mX12_isPopular (v_v : Int32) (v_t : Int32) (f_bank : Int32) (a_sumFrom : Nat → Int32) (a_sumBehind : Nat → Int32) (a_codeSort : Nat → Int32) (a_codeValue : Nat → Int32) (a_stepOf : Nat → Int32) (a_sizeOf : Nat → Int32) (a_trainOf : Nat → Int32) (a_carOf : Nat → Int32) (a_ageOf : Nat → Int32) (a_linkTo : Nat → Int32) (a_rootTo : Nat → Int32) (a_stack : Nat → Int64) (a_asked : Nat → Int32) (a_isStaying : Nat → Int32) : Option (Bool × (Nat → Int64) × (Nat → Int32)) :=
  (mX12_isTold (0 : Int32) f_bank a_sumFrom).bind (fun q1 =>
    if q1 = true then
      (mX12_layThing v_v v_t a_stepOf a_sizeOf a_trainOf a_carOf a_ageOf a_linkTo a_rootTo a_asked a_isStaying).bind (fun q3 =>
        (mX12_reckons (0 : Int32) f_bank a_sumFrom a_sumBehind a_codeSort a_codeValue a_stack q3).bind (xu fun q4_1 => fun q4_2 =>
          if q4_1 = (1 : Int64) then
            some (true, q4_2, q3)
          else
            some (false, q4_2, q3)))
    else
      (mX12_refsOf v_v v_t a_sizeOf a_trainOf a_carOf a_linkTo a_rootTo a_isStaying).bind (fun q6 =>
        if 3 < q6 then
          some (true, a_stack, a_asked)
        else
          some (false, a_stack, a_asked)))
def mX12_costOf (v_v : Int32) (v_t : Int32) (f_bank : Int32) (a_sumFrom : Nat → Int32) (a_sumBehind : Nat → Int32) (a_codeSort : Nat → Int32) (a_codeValue : Nat → Int32) (a_stepOf : Nat → Int32) (a_sizeOf : Nat → Int32) (a_trainOf : Nat → Int32) (a_carOf : Nat → Int32) (a_ageOf : Nat → Int32) (a_linkTo : Nat → Int32) (a_rootTo : Nat → Int32) (a_stack : Nat → Int64) (a_asked : Nat → Int32) (a_isStaying : Nat → Int32) : Option (Int32 × (Nat → Int64) × (Nat → Int32)) :=
  (mX12_isTold (2 : Int32) f_bank a_sumFrom).bind (fun q1 =>
    if q1 = true then
      (mX12_layThing v_v v_t a_stepOf a_sizeOf a_trainOf a_carOf a_ageOf a_linkTo a_rootTo a_asked a_isStaying).bind (fun q3 =>
        (mX12_reckons (2 : Int32) f_bank a_sumFrom a_sumBehind a_codeSort a_codeValue a_stack q3).bind (xu fun q4_1 => fun q4_2 =>
          if q4_1 < (0 : Int64) then
            some ((0 : Int32), q4_2, q3)
          else
            if (99 : Int64) < q4_1 then
              some ((99 : Int32), q4_2, q3)
            else
              some (q4_1.toInt32, q4_2, q3)))
    else
      if xinb ((40 * v_v) + v_t) 880 = true then
        some (a_sizeOf ((40 * v_v) + v_t).toNatClampNeg, a_stack, a_asked)
      else none)
def mX12_isOutside (v_v : Int32) (v_t : Int32) (a_sizeOf : Nat → Int32) (a_trainOf : Nat → Int32) (a_linkTo : Nat → Int32) (a_rootTo : Nat → Int32) (a_isStaying : Nat → Int32) (a_stayTrain : Nat → Int32) : Option (Bool) :=
  (mX12_isRooted v_v v_t a_rootTo).bind (fun q1 =>
    if q1 = true then
      some true
    else
      (mX12_calling v_v v_t a_sizeOf a_trainOf a_linkTo a_isStaying a_stayTrain).bind (fun q3 =>
        if q3 = (-1) then
          some false
        else
          some true))
def mX12_isFallen_2 (v_v : Int32) (a_sizeOf : Nat → Int32) (a_trainOf : Nat → Int32) (a_linkTo : Nat → Int32) (a_rootTo : Nat → Int32) (a_isStaying : Nat → Int32) (a_stayTrain : Nat → Int32)  : Nat → Nat → Option (Bool)
  | 0, i2 => some true
  | k2 + 1, i2 =>
    (mX12_isThere v_v (nI i2) a_sizeOf).bind (fun q1 =>
      if q1 = true then
        if xinb ((40 * v_v) + (nI i2)) 880 = true then
          if (a_trainOf ((40 * v_v) + (nI i2)).toNatClampNeg) = 0 then
            (mX12_isOutside v_v (nI i2) a_sizeOf a_trainOf a_linkTo a_rootTo a_isStaying a_stayTrain).bind (fun q5 =>
              if q5 = true then
                some false
              else
                mX12_isFallen_2 v_v a_sizeOf a_trainOf a_linkTo a_rootTo a_isStaying a_stayTrain k2 (i2 + 1))
          else
            mX12_isFallen_2 v_v a_sizeOf a_trainOf a_linkTo a_rootTo a_isStaying a_stayTrain k2 (i2 + 1)
        else none
      else
        mX12_isFallen_2 v_v a_sizeOf a_trainOf a_linkTo a_rootTo a_isStaying a_stayTrain k2 (i2 + 1))
def mX12_isFallen (v_v : Int32) (a_sizeOf : Nat → Int32) (a_trainOf : Nat → Int32) (a_linkTo : Nat → Int32) (a_rootTo : Nat → Int32) (a_isStaying : Nat → Int32) (a_stayTrain : Nat → Int32) : Option (Bool) :=
  mX12_isFallen_2 v_v a_sizeOf a_trainOf a_linkTo a_rootTo a_isStaying a_stayTrain 40 0
def mX12_isBy (v_v : Int32) (v_t : Int32) (v_rule : Int32) (a_sizeOf : Nat → Int32) (a_trainOf : Nat → Int32) (a_carOf : Nat → Int32) (a_markOf : Nat → Int32) (a_linkTo : Nat → Int32) (a_rootTo : Nat → Int32) (a_isStaying : Nat → Int32) (a_stayTrain : Nat → Int32) : Option (Bool) :=
  if v_rule = 1 then
    (mX12_isRooted v_v v_t a_rootTo).bind (fun q2 =>
      some q2)
  else
    if v_rule = 2 then
      if xinb ((40 * v_v) + v_t) 880 = true then
        if (a_markOf ((40 * v_v) + v_t).toNatClampNeg) = 1 then
          some true
        else
          some false
      else none
    else
      if v_rule = 3 then
        (mX12_calling v_v v_t a_sizeOf a_trainOf a_linkTo a_isStaying a_stayTrain).bind (fun q7 =>
          if q7 = (-1) then
            some false
          else
            some true)
      else
        (mX12_isCalledBeside v_v v_t a_sizeOf a_trainOf a_carOf a_linkTo a_isStaying a_stayTrain).bind (fun q9 =>
          some q9)
def mX12_nextToGo_12 (v_v : Int32) (a_sizeOf : Nat → Int32) (a_trainOf : Nat → Int32) (a_carOf : Nat → Int32) (a_placeOf : Nat → Int32) (a_markOf : Nat → Int32) (a_linkTo : Nat → Int32) (a_rootTo : Nat → Int32) (a_isStaying : Nat → Int32) (a_stayTrain : Nat → Int32) (i2 : Nat) (K2 : Int32 → Option (Int32 × Int32)) : Nat → Nat → Int32 → Option (Int32 × Int32)
  | 0, i12, x3_12 => if x3_12 = (-1) then
      K2 (nI i2)
    else
      some (x3_12, nI i2)
  | k12 + 1, i12, x3_12 =>
    (mX12_isWaiting v_v (nI i12) a_sizeOf a_trainOf a_carOf a_isStaying).bind (fun q1 =>
      if q1 = true then
        (mX12_isBy v_v (nI i12) (nI i2) a_sizeOf a_trainOf a_carOf a_markOf a_linkTo a_rootTo a_isStaying a_stayTrain).bind (fun q3 =>
          if q3 = true then
            if x3_12 = (-1) then
              mX12_nextToGo_12 v_v a_sizeOf a_trainOf a_carOf a_placeOf a_markOf a_linkTo a_rootTo a_isStaying a_stayTrain i2 K2 k12 (i12 + 1) (nI i12)
            else
              if xinb ((40 * v_v) + (nI i12)) 880 = true then
                if xinb ((40 * v_v) + x3_12) 880 = true then
                  if (a_placeOf ((40 * v_v) + (nI i12)).toNatClampNeg) < (a_placeOf ((40 * v_v) + x3_12).toNatClampNeg) then
                    mX12_nextToGo_12 v_v a_sizeOf a_trainOf a_carOf a_placeOf a_markOf a_linkTo a_rootTo a_isStaying a_stayTrain i2 K2 k12 (i12 + 1) (nI i12)
                  else
                    mX12_nextToGo_12 v_v a_sizeOf a_trainOf a_carOf a_placeOf a_markOf a_linkTo a_rootTo a_isStaying a_stayTrain i2 K2 k12 (i12 + 1) x3_12
                else none
              else none
          else
            mX12_nextToGo_12 v_v a_sizeOf a_trainOf a_carOf a_placeOf a_markOf a_linkTo a_rootTo a_isStaying a_stayTrain i2 K2 k12 (i12 + 1) x3_12)
      else
        mX12_nextToGo_12 v_v a_sizeOf a_trainOf a_carOf a_placeOf a_markOf a_linkTo a_rootTo a_isStaying a_stayTrain i2 K2 k12 (i12 + 1) x3_12)
def mX12_nextToGo_2 (v_v : Int32) (a_sizeOf : Nat → Int32) (a_trainOf : Nat → Int32) (a_carOf : Nat → Int32) (a_placeOf : Nat → Int32) (a_markOf : Nat → Int32) (a_linkTo : Nat → Int32) (a_rootTo : Nat → Int32) (a_isStaying : Nat → Int32) (a_stayTrain : Nat → Int32)  : Nat → Nat → Int32 → Option (Int32 × Int32)
  | 0, i2, f_ruleNow_2 => some (((-1) : Int32), f_ruleNow_2)
  | k2 + 1, i2, f_ruleNow_2 =>
    mX12_nextToGo_12 v_v a_sizeOf a_trainOf a_carOf a_placeOf a_markOf a_linkTo a_rootTo a_isStaying a_stayTrain i2 (fun zf_ruleNow_2 => mX12_nextToGo_2 v_v a_sizeOf a_trainOf a_carOf a_placeOf a_markOf a_linkTo a_rootTo a_isStaying a_stayTrain k2 (i2 + 1) zf_ruleNow_2) 40 0 ((-1) : Int32)
def mX12_nextToGo (v_v : Int32) (f_ruleNow : Int32) (a_sizeOf : Nat → Int32) (a_trainOf : Nat → Int32) (a_carOf : Nat → Int32) (a_placeOf : Nat → Int32) (a_markOf : Nat → Int32) (a_linkTo : Nat → Int32) (a_rootTo : Nat → Int32) (a_isStaying : Nat → Int32) (a_stayTrain : Nat → Int32) : Option (Int32 × Int32) :=
  mX12_nextToGo_2 v_v a_sizeOf a_trainOf a_carOf a_placeOf a_markOf a_linkTo a_rootTo a_isStaying a_stayTrain 4 1 f_ruleNow
def mX12_puts_54 (v_v : Int32) (v_train : Int32) (a_isStaying : Nat → Int32)  : Nat → Nat → Int32 → (Nat → Int32) → (Nat → Int32) → Option ((Nat → Int32) × (Nat → Int32) × (Nat → Int32))
  | 0, i54, x3_54, a_trainOf_54, a_carOf_54 => xlet (mX12_stirs a_isStaying) (fun q7 =>
      some (a_trainOf_54, a_carOf_54, q7))
  | k54 + 1, i54, x3_54, a_trainOf_54, a_carOf_54 =>
    if (a_isStaying (nI i54).toNatClampNeg) = 0 then
      mX12_puts_54 v_v v_train a_isStaying k54 (i54 + 1) x3_54 a_trainOf_54 a_carOf_54
    else
      if xinb ((40 * v_v) + (nI i54)) 880 = true then
        mX12_puts_54 v_v v_train a_isStaying k54 (i54 + 1) x3_54 (upd a_trainOf_54 ((40 * v_v) + (nI i54)).toNatClampNeg v_train) (upd a_carOf_54 ((40 * v_v) + (nI i54)).toNatClampNeg x3_54)
      else none
def mX12_puts_8 (v_v : Int32) (v_train : Int32) (a_sizeOf : Nat → Int32) (a_carOf : Nat → Int32) (a_isStaying : Nat → Int32)  : Nat → Nat → (Nat → Int32) → Option ((Nat → Int32) × (Nat → Int32) × (Nat → Int32))
  | 0, i8, a_trainOf_8 => (mX12_carsOf v_v v_train a_sizeOf a_trainOf_8 a_carOf).bind (fun q4 =>
      mX12_puts_54 v_v v_train a_isStaying 40 0 q4 a_trainOf_8 a_carOf)
  | k8 + 1, i8, a_trainOf_8 =>
    if (a_isStaying (nI i8).toNatClampNeg) = 0 then
      mX12_puts_8 v_v v_train a_sizeOf a_carOf a_isStaying k8 (i8 + 1) a_trainOf_8
    else
      if xinb ((40 * v_v) + (nI i8)) 880 = true then
        mX12_puts_8 v_v v_train a_sizeOf a_carOf a_isStaying k8 (i8 + 1) (upd a_trainOf_8 ((40 * v_v) + (nI i8)).toNatClampNeg (-1))
      else none
def mX12_puts (v_v : Int32) (v_train : Int32) (a_sizeOf : Nat → Int32) (a_trainOf : Nat → Int32) (a_carOf : Nat → Int32) (a_isStaying : Nat → Int32) : Option ((Nat → Int32) × (Nat → Int32) × (Nat → Int32)) :=
  if v_train = (-1) then
    some (a_trainOf, a_carOf, a_isStaying)
  else
    mX12_puts_8 v_v v_train a_sizeOf a_carOf a_isStaying 40 0 a_trainOf
def mX12_empties_221 (v_v : Int32) (a_newPlace : Nat → Int32)  : Nat → Nat → Int32 → Int32 → Int32 → Int32 → Int32 → Int32 → (Nat → Int32) → (Nat → Int32) → (Nat → Int32) → (Nat → Int32) → (Nat → Int32) → (Nat → Int32) → (Nat → Int32) → (Nat → Int64) → (Nat → Int32) → (Nat → Int32) → (Nat → Int32) → (Nat → Int32) → Option (Int32 × Int32 × Int32 × Int32 × Bool × (Nat → Int32) × (Nat → Int32) × (Nat → Int32) × (Nat → Int32) × (Nat → Int32) × (Nat → Int32) × (Nat → Int32) × (Nat → Int64) × (Nat → Int32) × (Nat → Int32) × (Nat → Int32) × (Nat → Int32) × (Nat → Int32))
  | 0, i221, x3_221, x4_221, f_ruleNow_221, f_fell_221, f_went_221, f_cost_221, a_sizeOf_221, a_trainOf_221, a_carOf_221, a_placeOf_221, a_ageOf_221, a_markOf_221, a_linkTo_221, a_stack_221, a_asked_221, a_isMoved_221, a_isStaying_221, a_stayTrain_221 => (mX12_puts v_v x3_221 a_sizeOf_221 a_trainOf_221 a_carOf_221 a_isStaying_221).bind (xu fun q21_1 => xu fun q21_2 => fun q21_3 =>
      (mX12_closes v_v a_sizeOf_221 q21_1 q21_2 a_placeOf_221 a_newPlace a_isMoved_221).bind (xu fun q22_1 => xu fun q22_2 => xu fun q22_3 => xu fun q22_4 => fun q22_5 =>
        if f_fell_221 = 0 then
          if x4_221 = 0 then
            some (f_ruleNow_221, f_fell_221, f_went_221, f_cost_221, false, a_sizeOf_221, q22_1, q22_2, q22_3, a_ageOf_221, a_markOf_221, a_linkTo_221, a_stack_221, a_asked_221, q22_4, q22_5, q21_3, a_stayTrain_221)
          else
            some (f_ruleNow_221, f_fell_221, f_went_221, f_cost_221, true, a_sizeOf_221, q22_1, q22_2, q22_3, a_ageOf_221, a_markOf_221, a_linkTo_221, a_stack_221, a_asked_221, q22_4, q22_5, q21_3, a_stayTrain_221)
        else
          some (f_ruleNow_221, f_fell_221, f_went_221, f_cost_221, false, a_sizeOf_221, q22_1, q22_2, q22_3, a_ageOf_221, a_markOf_221, a_linkTo_221, a_stack_221, a_asked_221, q22_4, q22_5, q21_3, a_stayTrain_221)))
  | k221 + 1, i221, x3_221, x4_221, f_ruleNow_221, f_fell_221, f_went_221, f_cost_221, a_sizeOf_221, a_trainOf_221, a_carOf_221, a_placeOf_221, a_ageOf_221, a_markOf_221, a_linkTo_221, a_stack_221, a_asked_221, a_isMoved_221, a_isStaying_221, a_stayTrain_221 =>
    if (a_isMoved_221 (nI i221).toNatClampNeg) = 0 then
      mX12_empties_221 v_v a_newPlace k221 (i221 + 1) x3_221 x4_221 f_ruleNow_221 f_fell_221 f_went_221 f_cost_221 a_sizeOf_221 a_trainOf_221 a_carOf_221 a_placeOf_221 a_ageOf_221 a_markOf_221 a_linkTo_221 a_stack_221 a_asked_221 a_isMoved_221 a_isStaying_221 a_stayTrain_221
    else
      (mX12_clears v_v (nI i221) a_sizeOf_221 a_trainOf_221 a_carOf_221 a_placeOf_221 a_ageOf_221 a_markOf_221 a_linkTo_221).bind (xu fun q20_1 => xu fun q20_2 => xu fun q20_3 => xu fun q20_4 => xu fun q20_5 => xu fun q20_6 => fun q20_7 =>
        mX12_empties_221 v_v a_newPlace k221 (i221 + 1) x3_221 x4_221 f_ruleNow_221 (f_fell_221 + 1) f_went_221 f_cost_221 q20_1 q20_2 q20_3 q20_4 q20_5 q20_6 q20_7 a_stack_221 a_asked_221 a_isMoved_221 a_isStaying_221 a_stayTrain_221)
def mX12_empties_183 (v_v : Int32) (f_fell : Int32) (a_sizeOf : Nat → Int32) (a_ageOf : Nat → Int32) (a_linkTo : Nat → Int32) (a_newPlace : Nat → Int32)  : Nat → Nat → Int32 → Int32 → Int32 → Int32 → Int32 → (Nat → Int32) → (Nat → Int32) → (Nat → Int32) → (Nat → Int32) → (Nat → Int64) → (Nat → Int32) → (Nat → Int32) → (Nat → Int32) → (Nat → Int32) → Option (Int32 × Int32 × Int32 × Int32 × Bool × (Nat → Int32) × (Nat → Int32) × (Nat → Int32) × (Nat → Int32) × (Nat → Int32) × (Nat → Int32) × (Nat → Int32) × (Nat → Int64) × (Nat → Int32) × (Nat → Int32) × (Nat → Int32) × (Nat → Int32) × (Nat → Int32))
  | 0, i183, x3_183, x4_183, f_ruleNow_183, f_went_183, f_cost_183, a_trainOf_183, a_carOf_183, a_placeOf_183, a_markOf_183, a_stack_183, a_asked_183, a_isMoved_183, a_isStaying_183, a_stayTrain_183 => mX12_empties_221 v_v a_newPlace 40 0 x3_183 x4_183 f_ruleNow_183 f_fell f_went_183 f_cost_183 a_sizeOf a_trainOf_183 a_carOf_183 a_placeOf_183 a_ageOf a_markOf_183 a_linkTo a_stack_183 a_asked_183 a_isMoved_183 a_isStaying_183 a_stayTrain_183
  | k183 + 1, i183, x3_183, x4_183, f_ruleNow_183, f_went_183, f_cost_183, a_trainOf_183, a_carOf_183, a_placeOf_183, a_markOf_183, a_stack_183, a_asked_183, a_isMoved_183, a_isStaying_183, a_stayTrain_183 =>
    (mX12_isWaiting v_v (nI i183) a_sizeOf a_trainOf_183 a_carOf_183 a_isStaying_183).bind (fun q17 =>
      if q17 = true then
        mX12_empties_183 v_v f_fell a_sizeOf a_ageOf a_linkTo a_newPlace k183 (i183 + 1) x3_183 x4_183 f_ruleNow_183 f_went_183 f_cost_183 a_trainOf_183 a_carOf_183 a_placeOf_183 a_markOf_183 a_stack_183 a_asked_183 (upd a_isMoved_183 (nI i183).toNatClampNeg 1) a_isStaying_183 a_stayTrain_183
      else
        mX12_empties_183 v_v f_fell a_sizeOf a_ageOf a_linkTo a_newPlace k183 (i183 + 1) x3_183 x4_183 f_ruleNow_183 f_went_183 f_cost_183 a_trainOf_183 a_carOf_183 a_placeOf_183 a_markOf_183 a_stack_183 a_asked_183 (upd a_isMoved_183 (nI i183).toNatClampNeg 0) a_isStaying_183 a_stayTrain_183)
def mX12_empties_157 (v_v : Int32) (a_sizeOf : Nat → Int32) (a_linkTo : Nat → Int32) (a_rootTo : Nat → Int32) (a_markOf_20 : Nat → Int32) (f_ruleNow_20 : Int32) (f_went_20 : Int32) (x5_20 : Int32) (K20 : Int32 → Int32 → Int32 → Int32 → Int32 → Int32 → Int32 → (Nat → Int32) → (Nat → Int32) → (Nat → Int32) → (Nat → Int32) → (Nat → Int64) → (Nat → Int32) → (Nat → Int32) → (Nat → Int32) → Option (Int32 × Int32 × Int32 × Int32 × Bool × (Nat → Int32) × (Nat → Int32) × (Nat → Int32) × (Nat → Int32) × (Nat → Int32) × (Nat → Int32) × (Nat → Int32) × (Nat → Int64) × (Nat → Int32) × (Nat → Int32) × (Nat → Int32) × (Nat → Int32) × (Nat → Int32))) (x2_157 : Int32) (x3_157 : Int32) (x4_157 : Int32) (f_cost_157 : Int32) (a_trainOf_157 : Nat → Int32) (a_carOf_157 : Nat → Int32) (a_placeOf_157 : Nat → Int32) (a_stack_157 : Nat → Int64) (a_asked_157 : Nat → Int32) (a_isStaying_157 : Nat → Int32) (a_stayTrain_157 : Nat → Int32) : Option (Int32 × Int32 × Int32 × Int32 × Bool × (Nat → Int32) × (Nat → Int32) × (Nat → Int32) × (Nat → Int32) × (Nat → Int32) × (Nat → Int32) × (Nat → Int32) × (Nat → Int64) × (Nat → Int32) × (Nat → Int32) × (Nat → Int32) × (Nat → Int32) × (Nat → Int32)) :=
  if xinb ((40 * v_v) + x5_20) 880 = true then
    (mX12_nextToGo v_v f_ruleNow_20 a_sizeOf a_trainOf_157 a_carOf_157 a_placeOf_157 (upd a_markOf_20 ((40 * v_v) + x5_20).toNatClampNeg 0) a_linkTo a_rootTo a_isStaying_157 a_stayTrain_157).bind (xu fun q16_1 => fun q16_2 =>
      K20 x2_157 x3_157 x4_157 q16_1 q16_2 (f_went_20 + 1) f_cost_157 a_trainOf_157 a_carOf_157 a_placeOf_157 (upd a_markOf_20 ((40 * v_v) + x5_20).toNatClampNeg 0) a_stack_157 a_asked_157 a_isStaying_157 a_stayTrain_157)
  else none
def mX12_empties_81 (v_v : Int32) (f_bank : Int32) (a_unitsTold : Nat → Int32) (a_sumFrom : Nat → Int32) (a_sumBehind : Nat → Int32) (a_codeSort : Nat → Int32) (a_codeValue : Nat → Int32) (a_stepOf : Nat → Int32) (a_sizeOf : Nat → Int32) (a_ageOf : Nat → Int32) (a_linkTo : Nat → Int32) (a_rootTo : Nat → Int32) (a_asked_20 : Nat → Int32) (a_carOf_20 : Nat → Int32) (a_isStaying_20 : Nat → Int32) (a_markOf_20 : Nat → Int32) (a_placeOf_20 : Nat → Int32) (a_stack_20 : Nat → Int64) (a_stayTrain_20 : Nat → Int32) (a_trainOf_20 : Nat → Int32) (f_cost_20 : Int32) (f_ruleNow_20 : Int32) (f_went_20 : Int32) (x3_20 : Int32) (x4_20 : Int32) (x5_20 : Int32) (K20 : Int32 → Int32 → Int32 → Int32 → Int32 → Int32 → Int32 → (Nat → Int32) → (Nat → Int32) → (Nat → Int32) → (Nat → Int32) → (Nat → Int64) → (Nat → Int32) → (Nat → Int32) → (Nat → Int32) → Option (Int32 × Int32 × Int32 × Int32 × Bool × (Nat → Int32) × (Nat → Int32) × (Nat → Int32) × (Nat → Int32) × (Nat → Int32) × (Nat → Int32) × (Nat → Int32) × (Nat → Int64) × (Nat → Int32) × (Nat → Int32) × (Nat → Int32) × (Nat → Int32) × (Nat → Int32))) (x2_81 : Int32) (x6_81 : Int32) (s0_81 : Int32) : Option (Int32 × Int32 × Int32 × Int32 × Bool × (Nat → Int32) × (Nat → Int32) × (Nat → Int32) × (Nat → Int32) × (Nat → Int32) × (Nat → Int32) × (Nat → Int32) × (Nat → Int64) × (Nat → Int32) × (Nat → Int32) × (Nat → Int32) × (Nat → Int32) × (Nat → Int32)) :=
  (mX12_isPopular v_v x5_20 f_bank a_sumFrom a_sumBehind a_codeSort a_codeValue a_stepOf a_sizeOf a_trainOf_20 a_carOf_20 a_ageOf a_linkTo a_rootTo a_stack_20 a_asked_20 a_isStaying_20).bind (xu fun q9_1 => xu fun q9_2 => fun q9_3 =>
    if q9_1 = true then
      if xinb x5_20 40 = true then
        if x3_20 = (-1) then
          mX12_empties_157 v_v a_sizeOf a_linkTo a_rootTo a_markOf_20 f_ruleNow_20 f_went_20 x5_20 K20 x2_81 x6_81 (x4_20 &&& s0_81) f_cost_20 a_trainOf_20 a_carOf_20 a_placeOf_20 q9_2 q9_3 (upd a_isStaying_20 x5_20.toNatClampNeg 1) (upd a_stayTrain_20 x5_20.toNatClampNeg x6_81)
        else
          mX12_empties_157 v_v a_sizeOf a_linkTo a_rootTo a_markOf_20 f_ruleNow_20 f_went_20 x5_20 K20 x2_81 x3_20 (x4_20 &&& s0_81) f_cost_20 a_trainOf_20 a_carOf_20 a_placeOf_20 q9_2 q9_3 (upd a_isStaying_20 x5_20.toNatClampNeg 1) (upd a_stayTrain_20 x5_20.toNatClampNeg x6_81)
      else none
    else
      (mX12_costOf v_v x5_20 f_bank a_sumFrom a_sumBehind a_codeSort a_codeValue a_stepOf a_sizeOf a_trainOf_20 a_carOf_20 a_ageOf a_linkTo a_rootTo q9_2 q9_3 a_isStaying_20).bind (xu fun q13_1 => xu fun q13_2 => fun q13_3 =>
        (mX12_lays v_v x5_20 x6_81 f_bank a_unitsTold a_sizeOf a_trainOf_20 a_carOf_20 a_placeOf_20).bind (xu fun q14_1 => xu fun q14_2 => fun q14_3 =>
          mX12_empties_157 v_v a_sizeOf a_linkTo a_rootTo a_markOf_20 f_ruleNow_20 f_went_20 x5_20 K20 x2_81 x3_20 (x4_20 &&& s0_81) (f_cost_20 + q13_1) q14_1 q14_2 q14_3 q13_2 q13_3 a_isStaying_20 a_stayTrain_20)))
def mX12_empties_66 (v_v : Int32) (f_bank : Int32) (a_unitsTold : Nat → Int32) (a_sumFrom : Nat → Int32) (a_sumBehind : Nat → Int32) (a_codeSort : Nat → Int32) (a_codeValue : Nat → Int32) (a_stepOf : Nat → Int32) (a_sizeOf : Nat → Int32) (a_ageOf : Nat → Int32) (a_linkTo : Nat → Int32) (a_rootTo : Nat → Int32) (a_asked_20 : Nat → Int32) (a_carOf_20 : Nat → Int32) (a_isStaying_20 : Nat → Int32) (a_markOf_20 : Nat → Int32) (a_placeOf_20 : Nat → Int32) (a_stack_20 : Nat → Int64) (a_stayTrain_20 : Nat → Int32) (a_trainOf_20 : Nat → Int32) (f_cost_20 : Int32) (f_ruleNow_20 : Int32) (f_went_20 : Int32) (x3_20 : Int32) (x4_20 : Int32) (x5_20 : Int32) (K20 : Int32 → Int32 → Int32 → Int32 → Int32 → Int32 → Int32 → (Nat → Int32) → (Nat → Int32) → (Nat → Int32) → (Nat → Int32) → (Nat → Int64) → (Nat → Int32) → (Nat → Int32) → (Nat → Int32) → Option (Int32 × Int32 × Int32 × Int32 × Bool × (Nat → Int32) × (Nat → Int32) × (Nat → Int32) × (Nat → Int32) × (Nat → Int32) × (Nat → Int32) × (Nat → Int32) × (Nat → Int64) × (Nat → Int32) × (Nat → Int32) × (Nat → Int32) × (Nat → Int32) × (Nat → Int32))) (x2_66 : Int32) (x6_66 : Int32) : Option (Int32 × Int32 × Int32 × Int32 × Bool × (Nat → Int32) × (Nat → Int32) × (Nat → Int32) × (Nat → Int32) × (Nat → Int32) × (Nat → Int32) × (Nat → Int32) × (Nat → Int64) × (Nat → Int32) × (Nat → Int32) × (Nat → Int32) × (Nat → Int32) × (Nat → Int32)) :=
  if f_ruleNow_20 = 4 then
    mX12_empties_81 v_v f_bank a_unitsTold a_sumFrom a_sumBehind a_codeSort a_codeValue a_stepOf a_sizeOf a_ageOf a_linkTo a_rootTo a_asked_20 a_carOf_20 a_isStaying_20 a_markOf_20 a_placeOf_20 a_stack_20 a_stayTrain_20 a_trainOf_20 f_cost_20 f_ruleNow_20 f_went_20 x3_20 x4_20 x5_20 K20 x2_66 x6_66 (1 : Int32)
  else
    mX12_empties_81 v_v f_bank a_unitsTold a_sumFrom a_sumBehind a_codeSort a_codeValue a_stepOf a_sizeOf a_ageOf a_linkTo a_rootTo a_asked_20 a_carOf_20 a_isStaying_20 a_markOf_20 a_placeOf_20 a_stack_20 a_stayTrain_20 a_trainOf_20 f_cost_20 f_ruleNow_20 f_went_20 x3_20 x4_20 x5_20 K20 x2_66 x6_66 (0 : Int32)
def mX12_empties_43 (v_v : Int32) (f_bank : Int32) (a_unitsTold : Nat → Int32) (a_sumFrom : Nat → Int32) (a_sumBehind : Nat → Int32) (a_codeSort : Nat → Int32) (a_codeValue : Nat → Int32) (a_stepOf : Nat → Int32) (a_sizeOf : Nat → Int32) (a_ageOf : Nat → Int32) (a_linkTo : Nat → Int32) (a_rootTo : Nat → Int32) (a_asked_20 : Nat → Int32) (a_carOf_20 : Nat → Int32) (a_isStaying_20 : Nat → Int32) (a_markOf_20 : Nat → Int32) (a_placeOf_20 : Nat → Int32) (a_stack_20 : Nat → Int64) (a_stayTrain_20 : Nat → Int32) (a_trainOf_20 : Nat → Int32) (f_cost_20 : Int32) (f_ruleNow_20 : Int32) (f_went_20 : Int32) (x3_20 : Int32) (x4_20 : Int32) (x5_20 : Int32) (K20 : Int32 → Int32 → Int32 → Int32 → Int32 → Int32 → Int32 → (Nat → Int32) → (Nat → Int32) → (Nat → Int32) → (Nat → Int32) → (Nat → Int64) → (Nat → Int32) → (Nat → Int32) → (Nat → Int32) → Option (Int32 × Int32 × Int32 × Int32 × Bool × (Nat → Int32) × (Nat → Int32) × (Nat → Int32) × (Nat → Int32) × (Nat → Int32) × (Nat → Int32) × (Nat → Int32) × (Nat → Int64) × (Nat → Int32) × (Nat → Int32) × (Nat → Int32) × (Nat → Int32) × (Nat → Int32))) (x2_43 : Int32) : Option (Int32 × Int32 × Int32 × Int32 × Bool × (Nat → Int32) × (Nat → Int32) × (Nat → Int32) × (Nat → Int32) × (Nat → Int32) × (Nat → Int32) × (Nat → Int32) × (Nat → Int64) × (Nat → Int32) × (Nat → Int32) × (Nat → Int32) × (Nat → Int32) × (Nat → Int32)) :=
  mX12_empties_66 v_v f_bank a_unitsTold a_sumFrom a_sumBehind a_codeSort a_codeValue a_stepOf a_sizeOf a_ageOf a_linkTo a_rootTo a_asked_20 a_carOf_20 a_isStaying_20 a_markOf_20 a_placeOf_20 a_stack_20 a_stayTrain_20 a_trainOf_20 f_cost_20 f_ruleNow_20 f_went_20 x3_20 x4_20 x5_20 K20 x2_43 x2_43
def mX12_empties_20 (v_v : Int32) (f_bank : Int32) (f_fell : Int32) (a_unitsTold : Nat → Int32) (a_sumFrom : Nat → Int32) (a_sumBehind : Nat → Int32) (a_codeSort : Nat → Int32) (a_codeValue : Nat → Int32) (a_stepOf : Nat → Int32) (a_sizeOf : Nat → Int32) (a_ageOf : Nat → Int32) (a_linkTo : Nat → Int32) (a_rootTo : Nat → Int32) (a_newPlace : Nat → Int32) (a_isMoved : Nat → Int32)  : Nat → Int32 → Int32 → Int32 → Int32 → Int32 → Int32 → Int32 → (Nat → Int32) → (Nat → Int32) → (Nat → Int32) → (Nat → Int32) → (Nat → Int64) → (Nat → Int32) → (Nat → Int32) → (Nat → Int32) → Option (Int32 × Int32 × Int32 × Int32 × Bool × (Nat → Int32) × (Nat → Int32) × (Nat → Int32) × (Nat → Int32) × (Nat → Int32) × (Nat → Int32) × (Nat → Int32) × (Nat → Int64) × (Nat → Int32) × (Nat → Int32) × (Nat → Int32) × (Nat → Int32) × (Nat → Int32))
  | 0, x2_20, x3_20, x4_20, x5_20, f_ruleNow_20, f_went_20, f_cost_20, a_trainOf_20, a_carOf_20, a_placeOf_20, a_markOf_20, a_stack_20, a_asked_20, a_isStaying_20, a_stayTrain_20 => none
  | k20 + 1, x2_20, x3_20, x4_20, x5_20, f_ruleNow_20, f_went_20, f_cost_20, a_trainOf_20, a_carOf_20, a_placeOf_20, a_markOf_20, a_stack_20, a_asked_20, a_isStaying_20, a_stayTrain_20 =>
    if x5_20 = (-1) then
      mX12_empties_183 v_v f_fell a_sizeOf a_ageOf a_linkTo a_newPlace 40 0 x3_20 x4_20 f_ruleNow_20 f_went_20 f_cost_20 a_trainOf_20 a_carOf_20 a_placeOf_20 a_markOf_20 a_stack_20 a_asked_20 a_isMoved a_isStaying_20 a_stayTrain_20
    else
      if f_ruleNow_20 < 3 then
        if x2_20 = 0 then
          mX12_empties_43 v_v f_bank a_unitsTold a_sumFrom a_sumBehind a_codeSort a_codeValue a_stepOf a_sizeOf a_ageOf a_linkTo a_rootTo a_asked_20 a_carOf_20 a_isStaying_20 a_markOf_20 a_placeOf_20 a_stack_20 a_stayTrain_20 a_trainOf_20 f_cost_20 f_ruleNow_20 f_went_20 x3_20 x4_20 x5_20 (fun zx2_20 zx3_20 zx4_20 zx5_20 zf_ruleNow_20 zf_went_20 zf_cost_20 za_trainOf_20 za_carOf_20 za_placeOf_20 za_markOf_20 za_stack_20 za_asked_20 za_isStaying_20 za_stayTrain_20 => mX12_empties_20 v_v f_bank f_fell a_unitsTold a_sumFrom a_sumBehind a_codeSort a_codeValue a_stepOf a_sizeOf a_ageOf a_linkTo a_rootTo a_newPlace a_isMoved k20 zx2_20 zx3_20 zx4_20 zx5_20 zf_ruleNow_20 zf_went_20 zf_cost_20 za_trainOf_20 za_carOf_20 za_placeOf_20 za_markOf_20 za_stack_20 za_asked_20 za_isStaying_20 za_stayTrain_20) (1 : Int32)
        else
          mX12_empties_43 v_v f_bank a_unitsTold a_sumFrom a_sumBehind a_codeSort a_codeValue a_stepOf a_sizeOf a_ageOf a_linkTo a_rootTo a_asked_20 a_carOf_20 a_isStaying_20 a_markOf_20 a_placeOf_20 a_stack_20 a_stayTrain_20 a_trainOf_20 f_cost_20 f_ruleNow_20 f_went_20 x3_20 x4_20 x5_20 (fun zx2_20 zx3_20 zx4_20 zx5_20 zf_ruleNow_20 zf_went_20 zf_cost_20 za_trainOf_20 za_carOf_20 za_placeOf_20 za_markOf_20 za_stack_20 za_asked_20 za_isStaying_20 za_stayTrain_20 => mX12_empties_20 v_v f_bank f_fell a_unitsTold a_sumFrom a_sumBehind a_codeSort a_codeValue a_stepOf a_sizeOf a_ageOf a_linkTo a_rootTo a_newPlace a_isMoved k20 zx2_20 zx3_20 zx4_20 zx5_20 zf_ruleNow_20 zf_went_20 zf_cost_20 za_trainOf_20 za_carOf_20 za_placeOf_20 za_markOf_20 za_stack_20 za_asked_20 za_isStaying_20 za_stayTrain_20) x2_20
      else
        if f_ruleNow_20 = 3 then
          (mX12_calling v_v x5_20 a_sizeOf a_trainOf_20 a_linkTo a_isStaying_20 a_stayTrain_20).bind (fun q7 =>
            mX12_empties_66 v_v f_bank a_unitsTold a_sumFrom a_sumBehind a_codeSort a_codeValue a_stepOf a_sizeOf a_ageOf a_linkTo a_rootTo a_asked_20 a_carOf_20 a_isStaying_20 a_markOf_20 a_placeOf_20 a_stack_20 a_stayTrain_20 a_trainOf_20 f_cost_20 f_ruleNow_20 f_went_20 x3_20 x4_20 x5_20 (fun zx2_20 zx3_20 zx4_20 zx5_20 zf_ruleNow_20 zf_went_20 zf_cost_20 za_trainOf_20 za_carOf_20 za_placeOf_20 za_markOf_20 za_stack_20 za_asked_20 za_isStaying_20 za_stayTrain_20 => mX12_empties_20 v_v f_bank f_fell a_unitsTold a_sumFrom a_sumBehind a_codeSort a_codeValue a_stepOf a_sizeOf a_ageOf a_linkTo a_rootTo a_newPlace a_isMoved k20 zx2_20 zx3_20 zx4_20 zx5_20 zf_ruleNow_20 zf_went_20 zf_cost_20 za_trainOf_20 za_carOf_20 za_placeOf_20 za_markOf_20 za_stack_20 za_asked_20 za_isStaying_20 za_stayTrain_20) x2_20 q7)
        else
          mX12_empties_66 v_v f_bank a_unitsTold a_sumFrom a_sumBehind a_codeSort a_codeValue a_stepOf a_sizeOf a_ageOf a_linkTo a_rootTo a_asked_20 a_carOf_20 a_isStaying_20 a_markOf_20 a_placeOf_20 a_stack_20 a_stayTrain_20 a_trainOf_20 f_cost_20 f_ruleNow_20 f_went_20 x3_20 x4_20 x5_20 (fun zx2_20 zx3_20 zx4_20 zx5_20 zf_ruleNow_20 zf_went_20 zf_cost_20 za_trainOf_20 za_carOf_20 za_placeOf_20 za_markOf_20 za_stack_20 za_asked_20 za_isStaying_20 za_stayTrain_20 => mX12_empties_20 v_v f_bank f_fell a_unitsTold a_sumFrom a_sumBehind a_codeSort a_codeValue a_stepOf a_sizeOf a_ageOf a_linkTo a_rootTo a_newPlace a_isMoved k20 zx2_20 zx3_20 zx4_20 zx5_20 zf_ruleNow_20 zf_went_20 zf_cost_20 za_trainOf_20 za_carOf_20 za_placeOf_20 za_markOf_20 za_stack_20 za_asked_20 za_isStaying_20 za_stayTrain_20) x2_20 (0 : Int32)
def mX12_empties (v_v : Int32) (f_bank : Int32) (f_ruleNow : Int32) (f_fell : Int32) (f_went : Int32) (f_cost : Int32) (a_unitsTold : Nat → Int32) (a_sumFrom : Nat → Int32) (a_sumBehind : Nat → Int32) (a_codeSort : Nat → Int32) (a_codeValue : Nat → Int32) (a_stepOf : Nat → Int32) (a_sizeOf : Nat → Int32) (a_trainOf : Nat → Int32) (a_carOf : Nat → Int32) (a_placeOf : Nat → Int32) (a_ageOf : Nat → Int32) (a_markOf : Nat → Int32) (a_linkTo : Nat → Int32) (a_rootTo : Nat → Int32) (a_stack : Nat → Int64) (a_asked : Nat → Int32) (a_newPlace : Nat → Int32) (a_isMoved : Nat → Int32) (a_isStaying : Nat → Int32) (a_stayTrain : Nat → Int32) : Option (Int32 × Int32 × Int32 × Int32 × Bool × (Nat → Int32) × (Nat → Int32) × (Nat → Int32) × (Nat → Int32) × (Nat → Int32) × (Nat → Int32) × (Nat → Int32) × (Nat → Int64) × (Nat → Int32) × (Nat → Int32) × (Nat → Int32) × (Nat → Int32) × (Nat → Int32)) :=
  (mX12_trainsOf v_v a_sizeOf a_trainOf).bind (fun q1 =>
    (mX12_nextToGo v_v f_ruleNow a_sizeOf a_trainOf a_carOf a_placeOf a_markOf a_linkTo a_rootTo a_isStaying a_stayTrain).bind (xu fun q2_1 => fun q2_2 =>
      mX12_empties_20 v_v f_bank f_fell a_unitsTold a_sumFrom a_sumBehind a_codeSort a_codeValue a_stepOf a_sizeOf a_ageOf a_linkTo a_rootTo a_newPlace a_isMoved xfuel (q1 - 1) ((-1) : Int32) (1 : Int32) q2_1 q2_2 f_went f_cost a_trainOf a_carOf a_placeOf a_markOf a_stack a_asked a_isStaying a_stayTrain))
def mX12_isMarkedFirst_2 (v_v : Int32) (a_sizeOf : Nat → Int32) (a_trainOf : Nat → Int32) (a_markOf : Nat → Int32)  : Nat → Nat → Option (Bool)
  | 0, i2 => some false
  | k2 + 1, i2 =>
    (mX12_isThere v_v (nI i2) a_sizeOf).bind (fun q1 =>
      if q1 = true then
        if xinb ((40 * v_v) + (nI i2)) 880 = true then
          if (a_trainOf ((40 * v_v) + (nI i2)).toNatClampNeg) = 0 then
            if (a_markOf ((40 * v_v) + (nI i2)).toNatClampNeg) = 1 then
              some true
            else
              mX12_isMarkedFirst_2 v_v a_sizeOf a_trainOf a_markOf k2 (i2 + 1)
          else
            mX12_isMarkedFirst_2 v_v a_sizeOf a_trainOf a_markOf k2 (i2 + 1)
        else none
      else
        mX12_isMarkedFirst_2 v_v a_sizeOf a_trainOf a_markOf k2 (i2 + 1))
def mX12_isMarkedFirst (v_v : Int32) (a_sizeOf : Nat → Int32) (a_trainOf : Nat → Int32) (a_markOf : Nat → Int32) : Option (Bool) :=
  mX12_isMarkedFirst_2 v_v a_sizeOf a_trainOf a_markOf 40 0
def mX12_marks_4 (v_v : Int32) (a_sizeOf : Nat → Int32) (a_trainOf : Nat → Int32) (a_carOf : Nat → Int32) (a_placeOf : Nat → Int32) (a_markOf : Nat → Int32) (a_linkTo : Nat → Int32) (a_rootTo : Nat → Int32) (a_isStaying : Nat → Int32) (a_stayTrain : Nat → Int32)  : Nat → Nat → Int32 → Option ((Nat → Int32))
  | 0, i4, x2_4 => if x2_4 = (-1) then
      some a_markOf
    else
      if xinb ((40 * v_v) + x2_4) 880 = true then
        some (upd a_markOf ((40 * v_v) + x2_4).toNatClampNeg 1)
      else none
  | k4 + 1, i4, x2_4 =>
    (mX12_isThere v_v (nI i4) a_sizeOf).bind (fun q1 =>
      if q1 = true then
        if xinb ((40 * v_v) + (nI i4)) 880 = true then
          if (a_trainOf ((40 * v_v) + (nI i4)).toNatClampNeg) = 0 then
            (mX12_isOutside v_v (nI i4) a_sizeOf a_trainOf a_linkTo a_rootTo a_isStaying a_stayTrain).bind (fun q5 =>
              if q5 = true then
                if x2_4 = (-1) then
                  mX12_marks_4 v_v a_sizeOf a_trainOf a_carOf a_placeOf a_markOf a_linkTo a_rootTo a_isStaying a_stayTrain k4 (i4 + 1) (nI i4)
                else
                  if xinb ((40 * v_v) + x2_4) 880 = true then
                    if (a_carOf ((40 * v_v) + (nI i4)).toNatClampNeg) < (a_carOf ((40 * v_v) + x2_4).toNatClampNeg) then
                      mX12_marks_4 v_v a_sizeOf a_trainOf a_carOf a_placeOf a_markOf a_linkTo a_rootTo a_isStaying a_stayTrain k4 (i4 + 1) (nI i4)
                    else
                      if (a_carOf ((40 * v_v) + (nI i4)).toNatClampNeg) = (a_carOf ((40 * v_v) + x2_4).toNatClampNeg) then
                        if (a_placeOf ((40 * v_v) + (nI i4)).toNatClampNeg) < (a_placeOf ((40 * v_v) + x2_4).toNatClampNeg) then
                          mX12_marks_4 v_v a_sizeOf a_trainOf a_carOf a_placeOf a_markOf a_linkTo a_rootTo a_isStaying a_stayTrain k4 (i4 + 1) (nI i4)
                        else
                          mX12_marks_4 v_v a_sizeOf a_trainOf a_carOf a_placeOf a_markOf a_linkTo a_rootTo a_isStaying a_stayTrain k4 (i4 + 1) x2_4
                      else
                        mX12_marks_4 v_v a_sizeOf a_trainOf a_carOf a_placeOf a_markOf a_linkTo a_rootTo a_isStaying a_stayTrain k4 (i4 + 1) x2_4
                  else none
              else
                mX12_marks_4 v_v a_sizeOf a_trainOf a_carOf a_placeOf a_markOf a_linkTo a_rootTo a_isStaying a_stayTrain k4 (i4 + 1) x2_4)
          else
            mX12_marks_4 v_v a_sizeOf a_trainOf a_carOf a_placeOf a_markOf a_linkTo a_rootTo a_isStaying a_stayTrain k4 (i4 + 1) x2_4
        else none
      else
        mX12_marks_4 v_v a_sizeOf a_trainOf a_carOf a_placeOf a_markOf a_linkTo a_rootTo a_isStaying a_stayTrain k4 (i4 + 1) x2_4)
def mX12_marks (v_v : Int32) (a_sizeOf : Nat → Int32) (a_trainOf : Nat → Int32) (a_carOf : Nat → Int32) (a_placeOf : Nat → Int32) (a_markOf : Nat → Int32) (a_linkTo : Nat → Int32) (a_rootTo : Nat → Int32) (a_isStaying : Nat → Int32) (a_stayTrain : Nat → Int32) : Option ((Nat → Int32)) :=
  mX12_marks_4 v_v a_sizeOf a_trainOf a_carOf a_placeOf a_markOf a_linkTo a_rootTo a_isStaying a_stayTrain 40 0 ((-1) : Int32)
def mX12_writesDown_59 (v_v : Int32) (f_fell : Int32) (f_went : Int32) (a_stepOf : Nat → Int32)  (a_keptMany_59 : Nat → Int32) (a_keptRow_59 : Nat → Int32) : Option ((Nat → Int32) × (Nat → Int32)) :=
  if xinb (3 * ((40 * v_v) + (a_keptMany_59 v_v.toNatClampNeg))) 2640 = true then
    if xinb ((3 * ((40 * v_v) + (a_keptMany_59 v_v.toNatClampNeg))) + 1) 2640 = true then
      if xinb ((3 * ((40 * v_v) + (a_keptMany_59 v_v.toNatClampNeg))) + 2) 2640 = true then
        some (upd a_keptMany_59 v_v.toNatClampNeg ((a_keptMany_59 v_v.toNatClampNeg) + 1), upd (upd (upd a_keptRow_59 (3 * ((40 * v_v) + (a_keptMany_59 v_v.toNatClampNeg))).toNatClampNeg (a_stepOf v_v.toNatClampNeg)) ((3 * ((40 * v_v) + (a_keptMany_59 v_v.toNatClampNeg))) + 1).toNatClampNeg f_fell) ((3 * ((40 * v_v) + (a_keptMany_59 v_v.toNatClampNeg))) + 2).toNatClampNeg f_went)
      else none
    else none
  else none
def mX12_writesDown_16 (v_v : Int32) (f_fell : Int32) (f_went : Int32) (a_stepOf : Nat → Int32) (a_keptMany : Nat → Int32)  : Nat → Int32 → (Nat → Int32) → Option ((Nat → Int32) × (Nat → Int32))
  | 0, x2_16, a_keptRow_16 => none
  | k16 + 1, x2_16, a_keptRow_16 =>
    if x2_16 < (((120 * v_v) + 120) - 3) then
      if xinb (x2_16 + 3) 2640 = true then
        if xinb x2_16 2640 = true then
          mX12_writesDown_16 v_v f_fell f_went a_stepOf a_keptMany k16 (x2_16 + 1) (upd a_keptRow_16 x2_16.toNatClampNeg (a_keptRow_16 (x2_16 + 3).toNatClampNeg))
        else none
      else none
    else
      mX12_writesDown_59 v_v f_fell f_went a_stepOf (upd a_keptMany v_v.toNatClampNeg ((a_keptMany v_v.toNatClampNeg) - 1)) a_keptRow_16
def mX12_writesDown (v_v : Int32) (f_fell : Int32) (f_went : Int32) (a_stepOf : Nat → Int32) (a_keptMany : Nat → Int32) (a_keptRow : Nat → Int32) : Option ((Nat → Int32) × (Nat → Int32)) :=
  if xinb v_v 22 = true then
    if (a_keptMany v_v.toNatClampNeg) = 40 then
      mX12_writesDown_16 v_v f_fell f_went a_stepOf a_keptMany xfuel (120 * v_v) a_keptRow
    else
      mX12_writesDown_59 v_v f_fell f_went a_stepOf a_keptMany a_keptRow
  else none
