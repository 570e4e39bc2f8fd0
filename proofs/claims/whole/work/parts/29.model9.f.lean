def mX12_isOrderly_105 (a_sizeOf : Nat → Int32) (a_trainOf : Nat → Int32) (a_carOf : Nat → Int32) (a_placeOf : Nat → Int32) (i10 : Nat) (i2 : Nat) (x3_93 : Int32) (x4_93 : Int32) (K93 : Int32 → Int32 → Option (Bool)) : Nat → Nat → Int32 → Option (Bool)
  | 0, i105, x5_105 => if x5_105 = 1 then
      K93 x3_93 (x4_93 + 1)
    else
      some false
  | k105 + 1, i105, x5_105 =>
    (mX12_isIn (1 : Int32) (nI i105) (nI i2) (nI i10) a_sizeOf a_trainOf a_carOf).bind (fun q14 =>
      if q14 = true then
        if (a_placeOf (40 + (nI i105)).toNatClampNeg) = x4_93 then
          mX12_isOrderly_105 a_sizeOf a_trainOf a_carOf a_placeOf i10 i2 x3_93 x4_93 K93 k105 (i105 + 1) (x5_105 + 1)
        else
          mX12_isOrderly_105 a_sizeOf a_trainOf a_carOf a_placeOf i10 i2 x3_93 x4_93 K93 k105 (i105 + 1) (x5_105 + 0)
      else
        mX12_isOrderly_105 a_sizeOf a_trainOf a_carOf a_placeOf i10 i2 x3_93 x4_93 K93 k105 (i105 + 1) (x5_105 + 0))
def mX12_isOrderly_93 (a_sizeOf : Nat → Int32) (a_trainOf : Nat → Int32) (a_carOf : Nat → Int32) (a_placeOf : Nat → Int32) (i10 : Nat) (i2 : Nat) (K10 : Option (Bool)) : Nat → Int32 → Int32 → Option (Bool)
  | 0, x3_93, x4_93 => none
  | k93 + 1, x3_93, x4_93 =>
    if x4_93 < x3_93 then
      mX12_isOrderly_105 a_sizeOf a_trainOf a_carOf a_placeOf i10 i2 x3_93 x4_93 (fun zx3_93 zx4_93 => mX12_isOrderly_93 a_sizeOf a_trainOf a_carOf a_placeOf i10 i2 K10 k93 zx3_93 zx4_93) 40 0 (0 : Int32)
    else
      K10
def mX12_isOrderly_69 (f_bank : Int32) (a_unitsTold : Nat → Int32) (a_sizeOf : Nat → Int32) (a_trainOf : Nat → Int32) (a_carOf : Nat → Int32) (a_placeOf : Nat → Int32) (i10 : Nat) (i2 : Nat) (K10 : Option (Bool)) (x3_69 : Int32) : Option (Bool) :=
  (mX12_unitsIn (1 : Int32) (nI i2) (nI i10) a_sizeOf a_trainOf a_carOf).bind (fun q10 =>
    if xinb f_bank 2 = true then
      if (a_unitsTold f_bank.toNatClampNeg) < q10 then
        some false
      else
        mX12_isOrderly_93 a_sizeOf a_trainOf a_carOf a_placeOf i10 i2 K10 xfuel x3_69 (0 : Int32)
    else none)
def mX12_isOrderly_47 (f_bank : Int32) (a_unitsTold : Nat → Int32) (a_sizeOf : Nat → Int32) (a_trainOf : Nat → Int32) (a_carOf : Nat → Int32) (a_placeOf : Nat → Int32) (i10 : Nat) (i2 : Nat) (K10 : Option (Bool)) (x3_47 : Int32) : Option (Bool) :=
  if (nI i10) = 0 then
    if 0 < (nI i2) then
      (mX12_thingsIn (1 : Int32) ((nI i2) - 1) (0 : Int32) a_sizeOf a_trainOf a_carOf).bind (fun q8 =>
        if q8 = 0 then
          some false
        else
          mX12_isOrderly_69 f_bank a_unitsTold a_sizeOf a_trainOf a_carOf a_placeOf i10 i2 K10 x3_47)
    else
      mX12_isOrderly_69 f_bank a_unitsTold a_sizeOf a_trainOf a_carOf a_placeOf i10 i2 K10 x3_47
  else
    mX12_isOrderly_69 f_bank a_unitsTold a_sizeOf a_trainOf a_carOf a_placeOf i10 i2 K10 x3_47
def mX12_isOrderly_10 (f_bank : Int32) (a_unitsTold : Nat → Int32) (a_sizeOf : Nat → Int32) (a_trainOf : Nat → Int32) (a_carOf : Nat → Int32) (a_placeOf : Nat → Int32) (i2 : Nat) (K2 : Option (Bool)) : Nat → Nat → Option (Bool)
  | 0, i10 => K2
  | k10 + 1, i10 =>
    (mX12_thingsIn (1 : Int32) (nI i2) (nI i10) a_sizeOf a_trainOf a_carOf).bind (fun q1 =>
      if q1 = 0 then
        mX12_isOrderly_10 f_bank a_unitsTold a_sizeOf a_trainOf a_carOf a_placeOf i2 K2 k10 (i10 + 1)
      else
        if 0 < (nI i10) then
          (mX12_thingsIn (1 : Int32) (nI i2) ((nI i10) - 1) a_sizeOf a_trainOf a_carOf).bind (fun q4 =>
            if q4 = 0 then
              some false
            else
              mX12_isOrderly_47 f_bank a_unitsTold a_sizeOf a_trainOf a_carOf a_placeOf i10 i2 (mX12_isOrderly_10 f_bank a_unitsTold a_sizeOf a_trainOf a_carOf a_placeOf i2 K2 k10 (i10 + 1)) q1)
        else
          mX12_isOrderly_47 f_bank a_unitsTold a_sizeOf a_trainOf a_carOf a_placeOf i10 i2 (mX12_isOrderly_10 f_bank a_unitsTold a_sizeOf a_trainOf a_carOf a_placeOf i2 K2 k10 (i10 + 1)) q1)
def mX12_isOrderly_2 (f_bank : Int32) (a_unitsTold : Nat → Int32) (a_sizeOf : Nat → Int32) (a_trainOf : Nat → Int32) (a_carOf : Nat → Int32) (a_placeOf : Nat → Int32)  : Nat → Nat → Option (Bool)
  | 0, i2 => some true
  | k2 + 1, i2 =>
    mX12_isOrderly_10 f_bank a_unitsTold a_sizeOf a_trainOf a_carOf a_placeOf i2 (mX12_isOrderly_2 f_bank a_unitsTold a_sizeOf a_trainOf a_carOf a_placeOf k2 (i2 + 1)) 40 0
def mX12_isOrderly (f_bank : Int32) (a_unitsTold : Nat → Int32) (a_sizeOf : Nat → Int32) (a_trainOf : Nat → Int32) (a_carOf : Nat → Int32) (a_placeOf : Nat → Int32) : Option (Bool) :=
  mX12_isOrderly_2 f_bank a_unitsTold a_sizeOf a_trainOf a_carOf a_placeOf 40 0
def mX12_comesOn_269 (f_bank : Int32) (a_unitsTold : Nat → Int32)  : Nat → Nat → (Nat → Int32) → (Nat → Int32) → (Nat → Int32) → (Nat → Int32) → (Nat → Int32) → (Nat → Int32) → (Nat → Int32) → (Nat → Int32) → (Nat → Int32) → (Nat → Int32) → (Nat → Int32) → Option (Bool × (Nat → Int32) × (Nat → Int32) × (Nat → Int32) × (Nat → Int32) × (Nat → Int32) × (Nat → Int32) × (Nat → Int32) × (Nat → Int32) × (Nat → Int32) × (Nat → Int32) × (Nat → Int32))
  | 0, i269, a_stepOf_269, a_sizeOf_269, a_trainOf_269, a_carOf_269, a_placeOf_269, a_ageOf_269, a_markOf_269, a_linkTo_269, a_rootTo_269, a_keptMany_269, a_keptRow_269 => (mX12_isOrderly f_bank a_unitsTold a_sizeOf_269 a_trainOf_269 a_carOf_269 a_placeOf_269).bind (fun q21 =>
      some (q21, a_stepOf_269, a_sizeOf_269, a_trainOf_269, a_carOf_269, a_placeOf_269, a_ageOf_269, a_markOf_269, a_linkTo_269, a_rootTo_269, a_keptMany_269, a_keptRow_269))
  | k269 + 1, i269, a_stepOf_269, a_sizeOf_269, a_trainOf_269, a_carOf_269, a_placeOf_269, a_ageOf_269, a_markOf_269, a_linkTo_269, a_rootTo_269, a_keptMany_269, a_keptRow_269 =>
    (mX12_isAimed (a_linkTo_269 (160 + (nI i269)).toNatClampNeg) a_sizeOf_269).bind (fun q19 =>
      if q19 = true then
        mX12_comesOn_269 f_bank a_unitsTold k269 (i269 + 1) a_stepOf_269 a_sizeOf_269 a_trainOf_269 a_carOf_269 a_placeOf_269 a_ageOf_269 a_markOf_269 a_linkTo_269 a_rootTo_269 a_keptMany_269 a_keptRow_269
      else
        some (false, a_stepOf_269, a_sizeOf_269, a_trainOf_269, a_carOf_269, a_placeOf_269, a_ageOf_269, a_markOf_269, a_linkTo_269, a_rootTo_269, a_keptMany_269, a_keptRow_269))
def mX12_comesOn_240 (a_ageOf_196 : Nat → Int32) (a_carOf_196 : Nat → Int32) (a_keptMany_196 : Nat → Int32) (a_keptRow_196 : Nat → Int32) (a_linkTo_196 : Nat → Int32) (a_markOf_196 : Nat → Int32) (a_placeOf_196 : Nat → Int32) (a_rootTo_196 : Nat → Int32) (a_sizeOf_196 : Nat → Int32) (a_stepOf_196 : Nat → Int32) (a_trainOf_196 : Nat → Int32) (i196 : Nat) (K196 : (Nat → Int32) → (Nat → Int32) → (Nat → Int32) → (Nat → Int32) → (Nat → Int32) → (Nat → Int32) → (Nat → Int32) → (Nat → Int32) → (Nat → Int32) → (Nat → Int32) → (Nat → Int32) → Option (Bool × (Nat → Int32) × (Nat → Int32) × (Nat → Int32) × (Nat → Int32) × (Nat → Int32) × (Nat → Int32) × (Nat → Int32) × (Nat → Int32) × (Nat → Int32) × (Nat → Int32) × (Nat → Int32))) (s0_240 : Int32) : Option (Bool × (Nat → Int32) × (Nat → Int32) × (Nat → Int32) × (Nat → Int32) × (Nat → Int32) × (Nat → Int32) × (Nat → Int32) × (Nat → Int32) × (Nat → Int32) × (Nat → Int32) × (Nat → Int32)) :=
  (mX12_isAimed ((upd a_rootTo_196 (8 + (nI i196)).toNatClampNeg s0_240) (8 + (nI i196)).toNatClampNeg) a_sizeOf_196).bind (fun q17 =>
    if q17 = true then
      K196 a_stepOf_196 a_sizeOf_196 a_trainOf_196 a_carOf_196 a_placeOf_196 a_ageOf_196 a_markOf_196 a_linkTo_196 (upd a_rootTo_196 (8 + (nI i196)).toNatClampNeg s0_240) a_keptMany_196 a_keptRow_196
    else
      some (false, a_stepOf_196, a_sizeOf_196, a_trainOf_196, a_carOf_196, a_placeOf_196, a_ageOf_196, a_markOf_196, a_linkTo_196, upd a_rootTo_196 (8 + (nI i196)).toNatClampNeg s0_240, a_keptMany_196, a_keptRow_196))
def mX12_comesOn_196 (f_bank : Int32) (a_tape : Nat → Int32) (a_unitsTold : Nat → Int32)  : Nat → Nat → (Nat → Int32) → (Nat → Int32) → (Nat → Int32) → (Nat → Int32) → (Nat → Int32) → (Nat → Int32) → (Nat → Int32) → (Nat → Int32) → (Nat → Int32) → (Nat → Int32) → (Nat → Int32) → Option (Bool × (Nat → Int32) × (Nat → Int32) × (Nat → Int32) × (Nat → Int32) × (Nat → Int32) × (Nat → Int32) × (Nat → Int32) × (Nat → Int32) × (Nat → Int32) × (Nat → Int32) × (Nat → Int32))
  | 0, i196, a_stepOf_196, a_sizeOf_196, a_trainOf_196, a_carOf_196, a_placeOf_196, a_ageOf_196, a_markOf_196, a_linkTo_196, a_rootTo_196, a_keptMany_196, a_keptRow_196 => mX12_comesOn_269 f_bank a_unitsTold 160 0 a_stepOf_196 a_sizeOf_196 a_trainOf_196 a_carOf_196 a_placeOf_196 a_ageOf_196 a_markOf_196 a_linkTo_196 a_rootTo_196 a_keptMany_196 a_keptRow_196
  | k196 + 1, i196, a_stepOf_196, a_sizeOf_196, a_trainOf_196, a_carOf_196, a_placeOf_196, a_ageOf_196, a_markOf_196, a_linkTo_196, a_rootTo_196, a_keptMany_196, a_keptRow_196 =>
    if (a_tape (2 + (nI i196)).toNatClampNeg) = 255 then
      mX12_comesOn_240 a_ageOf_196 a_carOf_196 a_keptMany_196 a_keptRow_196 a_linkTo_196 a_markOf_196 a_placeOf_196 a_rootTo_196 a_sizeOf_196 a_stepOf_196 a_trainOf_196 i196 (fun za_stepOf_196 za_sizeOf_196 za_trainOf_196 za_carOf_196 za_placeOf_196 za_ageOf_196 za_markOf_196 za_linkTo_196 za_rootTo_196 za_keptMany_196 za_keptRow_196 => mX12_comesOn_196 f_bank a_tape a_unitsTold k196 (i196 + 1) za_stepOf_196 za_sizeOf_196 za_trainOf_196 za_carOf_196 za_placeOf_196 za_ageOf_196 za_markOf_196 za_linkTo_196 za_rootTo_196 za_keptMany_196 za_keptRow_196) ((-1) : Int32)
    else
      mX12_comesOn_240 a_ageOf_196 a_carOf_196 a_keptMany_196 a_keptRow_196 a_linkTo_196 a_markOf_196 a_placeOf_196 a_rootTo_196 a_sizeOf_196 a_stepOf_196 a_trainOf_196 i196 (fun za_stepOf_196 za_sizeOf_196 za_trainOf_196 za_carOf_196 za_placeOf_196 za_ageOf_196 za_markOf_196 za_linkTo_196 za_rootTo_196 za_keptMany_196 za_keptRow_196 => mX12_comesOn_196 f_bank a_tape a_unitsTold k196 (i196 + 1) za_stepOf_196 za_sizeOf_196 za_trainOf_196 za_carOf_196 za_placeOf_196 za_ageOf_196 za_markOf_196 za_linkTo_196 za_rootTo_196 za_keptMany_196 za_keptRow_196) (a_tape (2 + (nI i196)).toNatClampNeg)
def mX12_comesOn_163 (f_bank : Int32) (a_tape : Nat → Int32) (a_unitsTold : Nat → Int32) (a_ageOf_126 : Nat → Int32) (a_carOf_126 : Nat → Int32) (a_keptMany_126 : Nat → Int32) (a_keptRow_126 : Nat → Int32) (a_linkTo_126 : Nat → Int32) (a_markOf_126 : Nat → Int32) (a_placeOf_126 : Nat → Int32) (a_rootTo_126 : Nat → Int32) (a_sizeOf_126 : Nat → Int32) (a_stepOf_126 : Nat → Int32) (a_trainOf_126 : Nat → Int32) (i126 : Nat) (x3_126 : Int32) (K126 : Int32 → (Nat → Int32) → (Nat → Int32) → (Nat → Int32) → (Nat → Int32) → (Nat → Int32) → (Nat → Int32) → (Nat → Int32) → (Nat → Int32) → (Nat → Int32) → (Nat → Int32) → (Nat → Int32) → Option (Bool × (Nat → Int32) × (Nat → Int32) × (Nat → Int32) × (Nat → Int32) × (Nat → Int32) × (Nat → Int32) × (Nat → Int32) × (Nat → Int32) × (Nat → Int32) × (Nat → Int32) × (Nat → Int32)))  : Option (Bool × (Nat → Int32) × (Nat → Int32) × (Nat → Int32) × (Nat → Int32) × (Nat → Int32) × (Nat → Int32) × (Nat → Int32) × (Nat → Int32) × (Nat → Int32) × (Nat → Int32) × (Nat → Int32)) :=
  (mX12_thingOn (nI i126) x3_126 f_bank a_tape a_unitsTold a_sizeOf_126 a_trainOf_126 a_carOf_126 a_placeOf_126 a_ageOf_126 a_markOf_126 a_linkTo_126).bind (xu fun q14_1 => xu fun q14_2 => xu fun q14_3 => xu fun q14_4 => xu fun q14_5 => xu fun q14_6 => xu fun q14_7 => fun q14_8 =>
    if q14_1 = (-1) then
      some (false, a_stepOf_126, q14_2, q14_3, q14_4, q14_5, q14_6, q14_7, q14_8, a_rootTo_126, a_keptMany_126, a_keptRow_126)
    else
      K126 q14_1 a_stepOf_126 q14_2 q14_3 q14_4 q14_5 q14_6 q14_7 q14_8 a_rootTo_126 a_keptMany_126 a_keptRow_126)
def mX12_comesOn_126 (v_n : Int32) (f_bank : Int32) (a_tape : Nat → Int32) (a_unitsTold : Nat → Int32)  : Nat → Nat → Int32 → (Nat → Int32) → (Nat → Int32) → (Nat → Int32) → (Nat → Int32) → (Nat → Int32) → (Nat → Int32) → (Nat → Int32) → (Nat → Int32) → (Nat → Int32) → (Nat → Int32) → (Nat → Int32) → Option (Bool × (Nat → Int32) × (Nat → Int32) × (Nat → Int32) × (Nat → Int32) × (Nat → Int32) × (Nat → Int32) × (Nat → Int32) × (Nat → Int32) × (Nat → Int32) × (Nat → Int32) × (Nat → Int32))
  | 0, i126, x3_126, a_stepOf_126, a_sizeOf_126, a_trainOf_126, a_carOf_126, a_placeOf_126, a_ageOf_126, a_markOf_126, a_linkTo_126, a_rootTo_126, a_keptMany_126, a_keptRow_126 => if x3_126 = (v_n - 1) then
      mX12_comesOn_196 f_bank a_tape a_unitsTold 8 0 a_stepOf_126 a_sizeOf_126 a_trainOf_126 a_carOf_126 a_placeOf_126 a_ageOf_126 a_markOf_126 a_linkTo_126 a_rootTo_126 a_keptMany_126 a_keptRow_126
    else
      some (false, a_stepOf_126, a_sizeOf_126, a_trainOf_126, a_carOf_126, a_placeOf_126, a_ageOf_126, a_markOf_126, a_linkTo_126, a_rootTo_126, a_keptMany_126, a_keptRow_126)
  | k126 + 1, i126, x3_126, a_stepOf_126, a_sizeOf_126, a_trainOf_126, a_carOf_126, a_placeOf_126, a_ageOf_126, a_markOf_126, a_linkTo_126, a_rootTo_126, a_keptMany_126, a_keptRow_126 =>
    if x3_126 < (v_n - 1) then
      if xinb x3_126 1800 = true then
        if 0 < (a_tape x3_126.toNatClampNeg) then
          if (v_n - 1) < ((x3_126 + 6) + 4) then
            some (false, a_stepOf_126, a_sizeOf_126, a_trainOf_126, a_carOf_126, a_placeOf_126, a_ageOf_126, a_markOf_126, a_linkTo_126, a_rootTo_126, a_keptMany_126, a_keptRow_126)
          else
            mX12_comesOn_163 f_bank a_tape a_unitsTold a_ageOf_126 a_carOf_126 a_keptMany_126 a_keptRow_126 a_linkTo_126 a_markOf_126 a_placeOf_126 a_rootTo_126 a_sizeOf_126 a_stepOf_126 a_trainOf_126 i126 x3_126 (fun zx3_126 za_stepOf_126 za_sizeOf_126 za_trainOf_126 za_carOf_126 za_placeOf_126 za_ageOf_126 za_markOf_126 za_linkTo_126 za_rootTo_126 za_keptMany_126 za_keptRow_126 => mX12_comesOn_126 v_n f_bank a_tape a_unitsTold k126 (i126 + 1) zx3_126 za_stepOf_126 za_sizeOf_126 za_trainOf_126 za_carOf_126 za_placeOf_126 za_ageOf_126 za_markOf_126 za_linkTo_126 za_rootTo_126 za_keptMany_126 za_keptRow_126)
        else
          mX12_comesOn_163 f_bank a_tape a_unitsTold a_ageOf_126 a_carOf_126 a_keptMany_126 a_keptRow_126 a_linkTo_126 a_markOf_126 a_placeOf_126 a_rootTo_126 a_sizeOf_126 a_stepOf_126 a_trainOf_126 i126 x3_126 (fun zx3_126 za_stepOf_126 za_sizeOf_126 za_trainOf_126 za_carOf_126 za_placeOf_126 za_ageOf_126 za_markOf_126 za_linkTo_126 za_rootTo_126 za_keptMany_126 za_keptRow_126 => mX12_comesOn_126 v_n f_bank a_tape a_unitsTold k126 (i126 + 1) zx3_126 za_stepOf_126 za_sizeOf_126 za_trainOf_126 za_carOf_126 za_placeOf_126 za_ageOf_126 za_markOf_126 za_linkTo_126 za_rootTo_126 za_keptMany_126 za_keptRow_126)
      else none
    else
      some (false, a_stepOf_126, a_sizeOf_126, a_trainOf_126, a_carOf_126, a_placeOf_126, a_ageOf_126, a_markOf_126, a_linkTo_126, a_rootTo_126, a_keptMany_126, a_keptRow_126)
def mX12_comesOn_43 (v_n : Int32) (f_bank : Int32) (a_tape : Nat → Int32) (a_unitsTold : Nat → Int32) (a_stepOf : Nat → Int32) (a_sizeOf : Nat → Int32) (a_trainOf : Nat → Int32) (a_carOf : Nat → Int32) (a_placeOf : Nat → Int32) (a_ageOf : Nat → Int32) (a_markOf : Nat → Int32) (a_linkTo : Nat → Int32) (a_rootTo : Nat → Int32) (a_keptMany : Nat → Int32) (a_keptRow : Nat → Int32)  : Nat → Int32 → Int32 → Option (Bool × (Nat → Int32) × (Nat → Int32) × (Nat → Int32) × (Nat → Int32) × (Nat → Int32) × (Nat → Int32) × (Nat → Int32) × (Nat → Int32) × (Nat → Int32) × (Nat → Int32) × (Nat → Int32))
  | 0, x2_43, x3_43 => none
  | k43 + 1, x2_43, x3_43 =>
    if x3_43 < (v_n - 1) then
      if xinb x3_43 1800 = true then
        mX12_comesOn_43 v_n f_bank a_tape a_unitsTold a_stepOf a_sizeOf a_trainOf a_carOf a_placeOf a_ageOf a_markOf a_linkTo a_rootTo a_keptMany a_keptRow k43 (((5 * x2_43) + (a_tape x3_43.toNatClampNeg)) - ((5 * x2_43) + (a_tape x3_43.toNatClampNeg)) / 251 * 251) (x3_43 + 1)
      else none
    else
      if xinb (v_n - 1) 1800 = true then
        if (a_tape (v_n - 1).toNatClampNeg) = x2_43 then
          (mX12_copies (1 : Int32) (0 : Int32) a_stepOf a_sizeOf a_trainOf a_carOf a_placeOf a_ageOf a_markOf a_linkTo a_rootTo a_keptMany a_keptRow).bind (xu fun q8_1 => xu fun q8_2 => xu fun q8_3 => xu fun q8_4 => xu fun q8_5 => xu fun q8_6 => xu fun q8_7 => xu fun q8_8 => xu fun q8_9 => xu fun q8_10 => fun q8_11 =>
            mX12_comesOn_126 v_n f_bank a_tape a_unitsTold 40 0 (10 : Int32) (upd q8_1 (1 : Int32).toNatClampNeg (((a_tape (0 : Int32).toNatClampNeg) <<< (8 &&& 31)) ||| (a_tape (1 : Int32).toNatClampNeg))) q8_2 q8_3 q8_4 q8_5 q8_6 q8_7 q8_8 q8_9 (upd q8_10 (1 : Int32).toNatClampNeg 0) q8_11)
        else
          some (false, a_stepOf, a_sizeOf, a_trainOf, a_carOf, a_placeOf, a_ageOf, a_markOf, a_linkTo, a_rootTo, a_keptMany, a_keptRow)
      else none
def mX12_comesOn (v_n : Int32) (f_bank : Int32) (f_isHeap : Bool) (a_tape : Nat → Int32) (a_unitsTold : Nat → Int32) (a_stepOf : Nat → Int32) (a_sizeOf : Nat → Int32) (a_trainOf : Nat → Int32) (a_carOf : Nat → Int32) (a_placeOf : Nat → Int32) (a_ageOf : Nat → Int32) (a_markOf : Nat → Int32) (a_linkTo : Nat → Int32) (a_rootTo : Nat → Int32) (a_keptMany : Nat → Int32) (a_keptRow : Nat → Int32) : Option (Bool × (Nat → Int32) × (Nat → Int32) × (Nat → Int32) × (Nat → Int32) × (Nat → Int32) × (Nat → Int32) × (Nat → Int32) × (Nat → Int32) × (Nat → Int32) × (Nat → Int32) × (Nat → Int32)) :=
  if f_isHeap = true then
    if v_n < 51 then
      some (false, a_stepOf, a_sizeOf, a_trainOf, a_carOf, a_placeOf, a_ageOf, a_markOf, a_linkTo, a_rootTo, a_keptMany, a_keptRow)
    else
      if (999 : Int32) < (((a_tape (0 : Int32).toNatClampNeg) <<< (8 &&& 31)) ||| (a_tape (1 : Int32).toNatClampNeg)) then
        some (false, a_stepOf, a_sizeOf, a_trainOf, a_carOf, a_placeOf, a_ageOf, a_markOf, a_linkTo, a_rootTo, a_keptMany, a_keptRow)
      else
        mX12_comesOn_43 v_n f_bank a_tape a_unitsTold a_stepOf a_sizeOf a_trainOf a_carOf a_placeOf a_ageOf a_markOf a_linkTo a_rootTo a_keptMany a_keptRow xfuel (239 : Int32) (0 : Int32)
  else
    some (false, a_stepOf, a_sizeOf, a_trainOf, a_carOf, a_placeOf, a_ageOf, a_markOf, a_linkTo, a_rootTo, a_keptMany, a_keptRow)
def mX12_on (f_taped : Int32) (f_bank : Int32) (f_isHeap : Bool) (f_undos : Int32) (a_tape : Nat → Int32) (a_unitsTold : Nat → Int32) (a_refused : Nat → Int32) (a_stepOf : Nat → Int32) (a_sizeOf : Nat → Int32) (a_trainOf : Nat → Int32) (a_carOf : Nat → Int32) (a_placeOf : Nat → Int32) (a_ageOf : Nat → Int32) (a_markOf : Nat → Int32) (a_linkTo : Nat → Int32) (a_rootTo : Nat → Int32) (a_keptMany : Nat → Int32) (a_keptRow : Nat → Int32) : Option (Bool × Int32 × Int32 × (Nat → Int32) × (Nat → Int32) × (Nat → Int32) × (Nat → Int32) × (Nat → Int32) × (Nat → Int32) × (Nat → Int32) × (Nat → Int32) × (Nat → Int32) × (Nat → Int32) × (Nat → Int32) × (Nat → Int32)) :=
  (mX12_comesOn f_taped f_bank f_isHeap a_tape a_unitsTold a_stepOf a_sizeOf a_trainOf a_carOf a_placeOf a_ageOf a_markOf a_linkTo a_rootTo a_keptMany a_keptRow).bind (xu fun q1_1 => xu fun q1_2 => xu fun q1_3 => xu fun q1_4 => xu fun q1_5 => xu fun q1_6 => xu fun q1_7 => xu fun q1_8 => xu fun q1_9 => xu fun q1_10 => xu fun q1_11 => fun q1_12 =>
    if q1_1 = true then
      (mX12_copies (0 : Int32) (1 : Int32) q1_2 q1_3 q1_4 q1_5 q1_6 q1_7 q1_8 q1_9 q1_10 q1_11 q1_12).bind (xu fun q3_1 => xu fun q3_2 => xu fun q3_3 => xu fun q3_4 => xu fun q3_5 => xu fun q3_6 => xu fun q3_7 => xu fun q3_8 => xu fun q3_9 => xu fun q3_10 => fun q3_11 =>
        some (true, (0 : Int32), (0 : Int32), a_refused, q3_1, q3_2, q3_3, q3_4, q3_5, q3_6, q3_7, q3_8, q3_9, q3_10, q3_11))
    else
      (mX12_refuses (5 : Int32) a_refused).bind (xu fun q4_1 => fun q4_2 =>
        if q4_1 < 0 then
          some (false, (0 : Int32), f_undos, q4_2, q1_2, q1_3, q1_4, q1_5, q1_6, q1_7, q1_8, q1_9, q1_10, q1_11, q1_12)
        else
          some (true, (0 : Int32), f_undos, q4_2, q1_2, q1_3, q1_4, q1_5, q1_6, q1_7, q1_8, q1_9, q1_10, q1_11, q1_12)))
