def mX12_copies_215 (v_to : Int32) (v_from : Int32) (a_stepOf : Nat → Int32) (a_keptMany : Nat → Int32)  : Nat → Int32 → (Nat → Int32) → (Nat → Int32) → (Nat → Int32) → (Nat → Int32) → (Nat → Int32) → (Nat → Int32) → (Nat → Int32) → (Nat → Int32) → (Nat → Int32) → Option ((Nat → Int32) × (Nat → Int32) × (Nat → Int32) × (Nat → Int32) × (Nat → Int32) × (Nat → Int32) × (Nat → Int32) × (Nat → Int32) × (Nat → Int32) × (Nat → Int32) × (Nat → Int32))
  | 0, x3_215, a_sizeOf_215, a_trainOf_215, a_carOf_215, a_placeOf_215, a_ageOf_215, a_markOf_215, a_linkTo_215, a_rootTo_215, a_keptRow_215 => none
  | k215 + 1, x3_215, a_sizeOf_215, a_trainOf_215, a_carOf_215, a_placeOf_215, a_ageOf_215, a_markOf_215, a_linkTo_215, a_rootTo_215, a_keptRow_215 =>
    if x3_215 < (3 * ((upd a_keptMany v_to.toNatClampNeg (a_keptMany v_from.toNatClampNeg)) v_from.toNatClampNeg)) then
      if xinb ((120 * v_from) + x3_215) 2640 = true then
        if xinb ((120 * v_to) + x3_215) 2640 = true then
          mX12_copies_215 v_to v_from a_stepOf a_keptMany k215 (x3_215 + 1) a_sizeOf_215 a_trainOf_215 a_carOf_215 a_placeOf_215 a_ageOf_215 a_markOf_215 a_linkTo_215 a_rootTo_215 (upd a_keptRow_215 ((120 * v_to) + x3_215).toNatClampNeg (a_keptRow_215 ((120 * v_from) + x3_215).toNatClampNeg))
        else none
      else none
    else
      some (upd a_stepOf v_to.toNatClampNeg (a_stepOf v_from.toNatClampNeg), a_sizeOf_215, a_trainOf_215, a_carOf_215, a_placeOf_215, a_ageOf_215, a_markOf_215, a_linkTo_215, a_rootTo_215, upd a_keptMany v_to.toNatClampNeg (a_keptMany v_from.toNatClampNeg), a_keptRow_215)
def mX12_copies_167 (v_to : Int32) (v_from : Int32) (a_stepOf : Nat → Int32) (a_keptMany : Nat → Int32) (a_keptRow : Nat → Int32)  : Nat → Nat → (Nat → Int32) → (Nat → Int32) → (Nat → Int32) → (Nat → Int32) → (Nat → Int32) → (Nat → Int32) → (Nat → Int32) → (Nat → Int32) → Option ((Nat → Int32) × (Nat → Int32) × (Nat → Int32) × (Nat → Int32) × (Nat → Int32) × (Nat → Int32) × (Nat → Int32) × (Nat → Int32) × (Nat → Int32) × (Nat → Int32) × (Nat → Int32))
  | 0, i167, a_sizeOf_167, a_trainOf_167, a_carOf_167, a_placeOf_167, a_ageOf_167, a_markOf_167, a_linkTo_167, a_rootTo_167 => mX12_copies_215 v_to v_from a_stepOf a_keptMany xfuel (0 : Int32) a_sizeOf_167 a_trainOf_167 a_carOf_167 a_placeOf_167 a_ageOf_167 a_markOf_167 a_linkTo_167 a_rootTo_167 a_keptRow
  | k167 + 1, i167, a_sizeOf_167, a_trainOf_167, a_carOf_167, a_placeOf_167, a_ageOf_167, a_markOf_167, a_linkTo_167, a_rootTo_167 =>
    if xinb ((8 * v_from) + (nI i167)) 176 = true then
      if xinb ((8 * v_to) + (nI i167)) 176 = true then
        mX12_copies_167 v_to v_from a_stepOf a_keptMany a_keptRow k167 (i167 + 1) a_sizeOf_167 a_trainOf_167 a_carOf_167 a_placeOf_167 a_ageOf_167 a_markOf_167 a_linkTo_167 (upd a_rootTo_167 ((8 * v_to) + (nI i167)).toNatClampNeg (a_rootTo_167 ((8 * v_from) + (nI i167)).toNatClampNeg))
      else none
    else none
def mX12_copies_123 (v_to : Int32) (v_from : Int32) (a_ageOf_14 : Nat → Int32) (a_carOf_14 : Nat → Int32) (a_markOf_14 : Nat → Int32) (a_placeOf_14 : Nat → Int32) (a_sizeOf_14 : Nat → Int32) (a_trainOf_14 : Nat → Int32) (i14 : Nat) (K14 : (Nat → Int32) → (Nat → Int32) → (Nat → Int32) → (Nat → Int32) → (Nat → Int32) → (Nat → Int32) → (Nat → Int32) → Option ((Nat → Int32) × (Nat → Int32) × (Nat → Int32) × (Nat → Int32) × (Nat → Int32) × (Nat → Int32) × (Nat → Int32) × (Nat → Int32) × (Nat → Int32) × (Nat → Int32) × (Nat → Int32))) : Nat → Nat → (Nat → Int32) → Option ((Nat → Int32) × (Nat → Int32) × (Nat → Int32) × (Nat → Int32) × (Nat → Int32) × (Nat → Int32) × (Nat → Int32) × (Nat → Int32) × (Nat → Int32) × (Nat → Int32) × (Nat → Int32))
  | 0, i123, a_linkTo_123 => K14 (upd a_sizeOf_14 ((40 * v_to) + (nI i14)).toNatClampNeg (a_sizeOf_14 ((40 * v_from) + (nI i14)).toNatClampNeg)) (upd a_trainOf_14 ((40 * v_to) + (nI i14)).toNatClampNeg (a_trainOf_14 ((40 * v_from) + (nI i14)).toNatClampNeg)) (upd a_carOf_14 ((40 * v_to) + (nI i14)).toNatClampNeg (a_carOf_14 ((40 * v_from) + (nI i14)).toNatClampNeg)) (upd a_placeOf_14 ((40 * v_to) + (nI i14)).toNatClampNeg (a_placeOf_14 ((40 * v_from) + (nI i14)).toNatClampNeg)) (upd a_ageOf_14 ((40 * v_to) + (nI i14)).toNatClampNeg (a_ageOf_14 ((40 * v_from) + (nI i14)).toNatClampNeg)) (upd a_markOf_14 ((40 * v_to) + (nI i14)).toNatClampNeg (a_markOf_14 ((40 * v_from) + (nI i14)).toNatClampNeg)) a_linkTo_123
  | k123 + 1, i123, a_linkTo_123 =>
    if xinb ((4 * ((40 * v_from) + (nI i14))) + (nI i123)) 3520 = true then
      if xinb ((4 * ((40 * v_to) + (nI i14))) + (nI i123)) 3520 = true then
        mX12_copies_123 v_to v_from a_ageOf_14 a_carOf_14 a_markOf_14 a_placeOf_14 a_sizeOf_14 a_trainOf_14 i14 K14 k123 (i123 + 1) (upd a_linkTo_123 ((4 * ((40 * v_to) + (nI i14))) + (nI i123)).toNatClampNeg (a_linkTo_123 ((4 * ((40 * v_from) + (nI i14))) + (nI i123)).toNatClampNeg))
      else none
    else none
def mX12_copies_14 (v_to : Int32) (v_from : Int32) (a_stepOf : Nat → Int32) (a_rootTo : Nat → Int32) (a_keptMany : Nat → Int32) (a_keptRow : Nat → Int32)  : Nat → Nat → (Nat → Int32) → (Nat → Int32) → (Nat → Int32) → (Nat → Int32) → (Nat → Int32) → (Nat → Int32) → (Nat → Int32) → Option ((Nat → Int32) × (Nat → Int32) × (Nat → Int32) × (Nat → Int32) × (Nat → Int32) × (Nat → Int32) × (Nat → Int32) × (Nat → Int32) × (Nat → Int32) × (Nat → Int32) × (Nat → Int32))
  | 0, i14, a_sizeOf_14, a_trainOf_14, a_carOf_14, a_placeOf_14, a_ageOf_14, a_markOf_14, a_linkTo_14 => mX12_copies_167 v_to v_from a_stepOf a_keptMany a_keptRow 8 0 a_sizeOf_14 a_trainOf_14 a_carOf_14 a_placeOf_14 a_ageOf_14 a_markOf_14 a_linkTo_14 a_rootTo
  | k14 + 1, i14, a_sizeOf_14, a_trainOf_14, a_carOf_14, a_placeOf_14, a_ageOf_14, a_markOf_14, a_linkTo_14 =>
    if xinb ((40 * v_from) + (nI i14)) 880 = true then
      if xinb ((40 * v_to) + (nI i14)) 880 = true then
        mX12_copies_123 v_to v_from a_ageOf_14 a_carOf_14 a_markOf_14 a_placeOf_14 a_sizeOf_14 a_trainOf_14 i14 (fun za_sizeOf_14 za_trainOf_14 za_carOf_14 za_placeOf_14 za_ageOf_14 za_markOf_14 za_linkTo_14 => mX12_copies_14 v_to v_from a_stepOf a_rootTo a_keptMany a_keptRow k14 (i14 + 1) za_sizeOf_14 za_trainOf_14 za_carOf_14 za_placeOf_14 za_ageOf_14 za_markOf_14 za_linkTo_14) 4 0 a_linkTo_14
      else none
    else none
def mX12_copies (v_to : Int32) (v_from : Int32) (a_stepOf : Nat → Int32) (a_sizeOf : Nat → Int32) (a_trainOf : Nat → Int32) (a_carOf : Nat → Int32) (a_placeOf : Nat → Int32) (a_ageOf : Nat → Int32) (a_markOf : Nat → Int32) (a_linkTo : Nat → Int32) (a_rootTo : Nat → Int32) (a_keptMany : Nat → Int32) (a_keptRow : Nat → Int32) : Option ((Nat → Int32) × (Nat → Int32) × (Nat → Int32) × (Nat → Int32) × (Nat → Int32) × (Nat → Int32) × (Nat → Int32) × (Nat → Int32) × (Nat → Int32) × (Nat → Int32) × (Nat → Int32)) :=
  if xinb v_from 22 = true then
    if xinb v_to 22 = true then
      mX12_copies_14 v_to v_from a_stepOf a_rootTo a_keptMany a_keptRow 40 0 a_sizeOf a_trainOf a_carOf a_placeOf a_ageOf a_markOf a_linkTo
    else none
  else none
def mX12_slot (v_k : Int32) (f_undoFirst : Int32) : Int32 :=
  2 + ((f_undoFirst + v_k) - (f_undoFirst + v_k) / 20 * 20)
def mX12_keeps_32 (a_stepOf : Nat → Int32) (a_sizeOf : Nat → Int32) (a_trainOf : Nat → Int32) (a_carOf : Nat → Int32) (a_placeOf : Nat → Int32) (a_ageOf : Nat → Int32) (a_markOf : Nat → Int32) (a_linkTo : Nat → Int32) (a_rootTo : Nat → Int32) (a_keptMany : Nat → Int32) (a_keptRow : Nat → Int32)  (f_undoFirst_32 : Int32) (f_undos_32 : Int32) : Option (Int32 × Int32 × (Nat → Int32) × (Nat → Int32) × (Nat → Int32) × (Nat → Int32) × (Nat → Int32) × (Nat → Int32) × (Nat → Int32) × (Nat → Int32) × (Nat → Int32) × (Nat → Int32) × (Nat → Int32)) :=
  (mX12_copies (mX12_slot f_undos_32 f_undoFirst_32) (0 : Int32) a_stepOf a_sizeOf a_trainOf a_carOf a_placeOf a_ageOf a_markOf a_linkTo a_rootTo a_keptMany a_keptRow).bind (xu fun q2_1 => xu fun q2_2 => xu fun q2_3 => xu fun q2_4 => xu fun q2_5 => xu fun q2_6 => xu fun q2_7 => xu fun q2_8 => xu fun q2_9 => xu fun q2_10 => fun q2_11 =>
    some (f_undoFirst_32, f_undos_32 + 1, q2_1, q2_2, q2_3, q2_4, q2_5, q2_6, q2_7, q2_8, q2_9, q2_10, q2_11))
def mX12_keeps (f_undoFirst : Int32) (f_undos : Int32) (a_stepOf : Nat → Int32) (a_sizeOf : Nat → Int32) (a_trainOf : Nat → Int32) (a_carOf : Nat → Int32) (a_placeOf : Nat → Int32) (a_ageOf : Nat → Int32) (a_markOf : Nat → Int32) (a_linkTo : Nat → Int32) (a_rootTo : Nat → Int32) (a_keptMany : Nat → Int32) (a_keptRow : Nat → Int32) : Option (Int32 × Int32 × (Nat → Int32) × (Nat → Int32) × (Nat → Int32) × (Nat → Int32) × (Nat → Int32) × (Nat → Int32) × (Nat → Int32) × (Nat → Int32) × (Nat → Int32) × (Nat → Int32) × (Nat → Int32)) :=
  if f_undos = 20 then
    mX12_keeps_32 a_stepOf a_sizeOf a_trainOf a_carOf a_placeOf a_ageOf a_markOf a_linkTo a_rootTo a_keptMany a_keptRow ((f_undoFirst + 1) - (f_undoFirst + 1) / 20 * 20) (f_undos - 1)
  else
    mX12_keeps_32 a_stepOf a_sizeOf a_trainOf a_carOf a_placeOf a_ageOf a_markOf a_linkTo a_rootTo a_keptMany a_keptRow f_undoFirst f_undos
def mX12_undo (f_undoFirst : Int32) (f_undos : Int32) (a_refused : Nat → Int32) (a_stepOf : Nat → Int32) (a_sizeOf : Nat → Int32) (a_trainOf : Nat → Int32) (a_carOf : Nat → Int32) (a_placeOf : Nat → Int32) (a_ageOf : Nat → Int32) (a_markOf : Nat → Int32) (a_linkTo : Nat → Int32) (a_rootTo : Nat → Int32) (a_keptMany : Nat → Int32) (a_keptRow : Nat → Int32) : Option (Bool × Int32 × (Nat → Int32) × (Nat → Int32) × (Nat → Int32) × (Nat → Int32) × (Nat → Int32) × (Nat → Int32) × (Nat → Int32) × (Nat → Int32) × (Nat → Int32) × (Nat → Int32) × (Nat → Int32) × (Nat → Int32)) :=
  if f_undos = 0 then
    (mX12_refuses (4 : Int32) a_refused).bind (xu fun q2_1 => fun q2_2 =>
      if q2_1 < 0 then
        some (false, f_undos, q2_2, a_stepOf, a_sizeOf, a_trainOf, a_carOf, a_placeOf, a_ageOf, a_markOf, a_linkTo, a_rootTo, a_keptMany, a_keptRow)
      else
        some (true, f_undos, q2_2, a_stepOf, a_sizeOf, a_trainOf, a_carOf, a_placeOf, a_ageOf, a_markOf, a_linkTo, a_rootTo, a_keptMany, a_keptRow))
  else
    (mX12_copies (0 : Int32) (mX12_slot (f_undos - 1) f_undoFirst) a_stepOf a_sizeOf a_trainOf a_carOf a_placeOf a_ageOf a_markOf a_linkTo a_rootTo a_keptMany a_keptRow).bind (xu fun q4_1 => xu fun q4_2 => xu fun q4_3 => xu fun q4_4 => xu fun q4_5 => xu fun q4_6 => xu fun q4_7 => xu fun q4_8 => xu fun q4_9 => xu fun q4_10 => fun q4_11 =>
      some (true, f_undos - 1, a_refused, q4_1, q4_2, q4_3, q4_4, q4_5, q4_6, q4_7, q4_8, q4_9, q4_10, q4_11))
def mX12_within (v_v : Int64) : Int64 :=
  if (1000000 : Int64) < v_v then
    (1000000 : Int64)
  else
    if v_v < ((-1000000) : Int64) then
      ((-1000000) : Int64)
    else
      v_v
def mX12_floor_32 (v_a : Int64) (v_b : Int64)  (s0_32 : Int32) : Option (Int64) :=
  if v_b < (0 : Int64) then
    if s0_32 = 1 then
      some (v_a / v_b)
    else
      some ((v_a / v_b) - 1)
  else
    if s0_32 = 0 then
      some (v_a / v_b)
    else
      some ((v_a / v_b) - 1)
def mX12_floor (v_a : Int64) (v_b : Int64) : Option (Int64) :=
  if v_b = (0 : Int64) then
    some (0 : Int64)
  else
    if v_b = 0 then none else
      if (v_a - v_a / v_b * v_b) = (0 : Int64) then
        some (v_a / v_b)
      else
        if v_a < (0 : Int64) then
          mX12_floor_32 v_a v_b (1 : Int32)
        else
          mX12_floor_32 v_a v_b (0 : Int32)
def mX12_two (v_sort : Int32) (v_a : Int64) (v_b : Int64) : Option (Int64) :=
  if v_sort = 31 then
    some (mX12_within (v_a + v_b))
  else if v_sort = 32 then
    some (mX12_within (v_a - v_b))
  else if v_sort = 33 then
    some (mX12_within (v_a * v_b))
  else if v_sort = 34 then
    (mX12_floor v_a v_b).bind (fun q8 =>
      some (mX12_within q8))
  else if v_sort = 35 then
    if v_b = (0 : Int64) then
      some (0 : Int64)
    else
      (mX12_floor v_a v_b).bind (fun q12 =>
        some (mX12_within (v_a - (v_b * q12))))
  else if v_sort = 36 then
    if v_a < v_b then
      some v_a
    else
      some v_b
  else if v_sort = 37 then
    if v_b < v_a then
      some v_a
    else
      some v_b
  else if v_sort = 38 then
    if v_a < v_b then
      some (1 : Int64)
    else
      some (0 : Int64)
  else if v_sort = 39 then
    if v_b < v_a then
      some (1 : Int64)
    else
      some (0 : Int64)
  else if v_sort = 40 then
    if v_a = v_b then
      some (1 : Int64)
    else
      some (0 : Int64)
  else if v_sort = 41 then
    some (v_a &&& v_b)
  else 
    some (v_a ||| v_b)
def mX12_reckons_25 (v_which : Int32) (f_bank : Int32) (a_sumBehind : Nat → Int32) (a_codeSort : Nat → Int32) (a_codeValue : Nat → Int32) (a_asked : Nat → Int32)  : Nat → Int32 → Int32 → (Nat → Int64) → Option (Int64 × (Nat → Int64))
  | 0, x2_25, x3_25, a_stack_25 => none
  | k25 + 1, x2_25, x3_25, a_stack_25 =>
    if x3_25 < ((1600 * f_bank) + (a_sumBehind ((3 * f_bank) + v_which).toNatClampNeg)) then
      if xinb x3_25 3200 = true then
        if 30 < (a_codeSort x3_25.toNatClampNeg) then
          if (a_codeSort x3_25.toNatClampNeg) = 43 then
            if xinb (x2_25 - 1) 500 = true then
              mX12_reckons_25 v_which f_bank a_sumBehind a_codeSort a_codeValue a_asked k25 x2_25 (x3_25 + 1) (vp_updL a_stack_25 (x2_25 - 1).toNatClampNeg ((1 : Int64) - (a_stack_25 (x2_25 - 1).toNatClampNeg)))
            else none
          else
            if (a_codeSort x3_25.toNatClampNeg) = 44 then
              if xinb ((x2_25 + (-2)) - 1) 500 = true then
                if (a_stack_25 ((x2_25 + (-2)) - 1).toNatClampNeg) = (1 : Int64) then
                  if xinb (x2_25 + (-2)) 500 = true then
                    mX12_reckons_25 v_which f_bank a_sumBehind a_codeSort a_codeValue a_asked k25 (x2_25 + (-2)) (x3_25 + 1) (vp_updL a_stack_25 ((x2_25 + (-2)) - 1).toNatClampNeg (a_stack_25 (x2_25 + (-2)).toNatClampNeg))
                  else none
                else
                  if xinb ((x2_25 + (-2)) + 1) 500 = true then
                    mX12_reckons_25 v_which f_bank a_sumBehind a_codeSort a_codeValue a_asked k25 (x2_25 + (-2)) (x3_25 + 1) (vp_updL a_stack_25 ((x2_25 + (-2)) - 1).toNatClampNeg (a_stack_25 ((x2_25 + (-2)) + 1).toNatClampNeg))
                  else none
              else none
            else
              if xinb ((x2_25 + (-1)) - 1) 500 = true then
                if xinb (x2_25 + (-1)) 500 = true then
                  (mX12_two (a_codeSort x3_25.toNatClampNeg) (a_stack_25 ((x2_25 + (-1)) - 1).toNatClampNeg) (a_stack_25 (x2_25 + (-1)).toNatClampNeg)).bind (fun q14 =>
                    mX12_reckons_25 v_which f_bank a_sumBehind a_codeSort a_codeValue a_asked k25 (x2_25 + (-1)) (x3_25 + 1) (vp_updL a_stack_25 ((x2_25 + (-1)) - 1).toNatClampNeg q14))
                else none
              else none
        else
          if (a_codeSort x3_25.toNatClampNeg) = 0 then
            if xinb x2_25 500 = true then
              mX12_reckons_25 v_which f_bank a_sumBehind a_codeSort a_codeValue a_asked k25 (x2_25 + 1) (x3_25 + 1) (vp_updL a_stack_25 x2_25.toNatClampNeg ((a_codeValue x3_25.toNatClampNeg).toInt64))
            else none
          else
            if (a_codeSort x3_25.toNatClampNeg) = 30 then
              if xinb x2_25 500 = true then
                mX12_reckons_25 v_which f_bank a_sumBehind a_codeSort a_codeValue a_asked k25 (x2_25 + 1) (x3_25 + 1) (vp_updL a_stack_25 x2_25.toNatClampNeg 1)
              else none
            else
              if xinb (a_codeSort x3_25.toNatClampNeg) 12 = true then
                if xinb x2_25 500 = true then
                  mX12_reckons_25 v_which f_bank a_sumBehind a_codeSort a_codeValue a_asked k25 (x2_25 + 1) (x3_25 + 1) (vp_updL a_stack_25 x2_25.toNatClampNeg ((a_asked (a_codeSort x3_25.toNatClampNeg).toNatClampNeg).toInt64))
                else none
              else none
      else none
    else
      some (a_stack_25 (0 : Int32).toNatClampNeg, a_stack_25)
def mX12_reckons (v_which : Int32) (f_bank : Int32) (a_sumFrom : Nat → Int32) (a_sumBehind : Nat → Int32) (a_codeSort : Nat → Int32) (a_codeValue : Nat → Int32) (a_stack : Nat → Int64) (a_asked : Nat → Int32) : Option (Int64 × (Nat → Int64)) :=
  if xinb ((3 * f_bank) + v_which) 6 = true then
    mX12_reckons_25 v_which f_bank a_sumBehind a_codeSort a_codeValue a_asked xfuel (0 : Int32) ((1600 * f_bank) + (a_sumFrom ((3 * f_bank) + v_which).toNatClampNeg)) a_stack
  else none
def mX12_isTold (v_which : Int32) (f_bank : Int32) (a_sumFrom : Nat → Int32) : Option (Bool) :=
  if xinb ((3 * f_bank) + v_which) 6 = true then
    if (a_sumFrom ((3 * f_bank) + v_which).toNatClampNeg) = (-1) then
      some false
    else
      some true
  else none
def mX12_trainsOf_4 (v_v : Int32) (a_sizeOf : Nat → Int32) (a_trainOf : Nat → Int32)  : Nat → Nat → Int32 → Option (Int32)
  | 0, i4, x2_4 => some x2_4
  | k4 + 1, i4, x2_4 =>
    (mX12_isThere v_v (nI i4) a_sizeOf).bind (fun q1 =>
      if q1 = true then
        if xinb ((40 * v_v) + (nI i4)) 880 = true then
          if (a_trainOf ((40 * v_v) + (nI i4)).toNatClampNeg) < x2_4 then
            mX12_trainsOf_4 v_v a_sizeOf a_trainOf k4 (i4 + 1) x2_4
          else
            mX12_trainsOf_4 v_v a_sizeOf a_trainOf k4 (i4 + 1) ((a_trainOf ((40 * v_v) + (nI i4)).toNatClampNeg) + 1)
        else none
      else
        mX12_trainsOf_4 v_v a_sizeOf a_trainOf k4 (i4 + 1) x2_4)
def mX12_trainsOf (v_v : Int32) (a_sizeOf : Nat → Int32) (a_trainOf : Nat → Int32) : Option (Int32) :=
  mX12_trainsOf_4 v_v a_sizeOf a_trainOf 40 0 (0 : Int32)
def mX12_allCars_4 (v_v : Int32) (a_sizeOf : Nat → Int32) (a_trainOf : Nat → Int32) (a_carOf : Nat → Int32)  : Nat → Int32 → Int32 → Option (Int32)
  | 0, x2_4, x3_4 => none
  | k4 + 1, x2_4, x3_4 =>
    (mX12_trainsOf v_v a_sizeOf a_trainOf).bind (fun q1 =>
      if x3_4 < q1 then
        (mX12_carsOf v_v x3_4 a_sizeOf a_trainOf a_carOf).bind (fun q3 =>
          mX12_allCars_4 v_v a_sizeOf a_trainOf a_carOf k4 (x2_4 + q3) (x3_4 + 1))
      else
        some x2_4)
def mX12_allCars (v_v : Int32) (a_sizeOf : Nat → Int32) (a_trainOf : Nat → Int32) (a_carOf : Nat → Int32) : Option (Int32) :=
  mX12_allCars_4 v_v a_sizeOf a_trainOf a_carOf xfuel (0 : Int32) (0 : Int32)
def mX12_renumbers_134 (v_v : Int32) (v_train : Int32) (v_car : Int32)  : Nat → Nat → (Nat → Int32) → (Nat → Int32) → (Nat → Int32) → (Nat → Int32) → (Nat → Int32) → Option ((Nat → Int32) × (Nat → Int32) × (Nat → Int32) × (Nat → Int32) × (Nat → Int32))
  | 0, i134, a_trainOf_134, a_carOf_134, a_placeOf_134, a_newPlace_134, a_isMoved_134 => some (a_trainOf_134, a_carOf_134, a_placeOf_134, a_newPlace_134, a_isMoved_134)
  | k134 + 1, i134, a_trainOf_134, a_carOf_134, a_placeOf_134, a_newPlace_134, a_isMoved_134 =>
    if (a_isMoved_134 (nI i134).toNatClampNeg) = 0 then
      mX12_renumbers_134 v_v v_train v_car k134 (i134 + 1) a_trainOf_134 a_carOf_134 a_placeOf_134 a_newPlace_134 a_isMoved_134
    else
      if xinb ((40 * v_v) + (nI i134)) 880 = true then
        mX12_renumbers_134 v_v v_train v_car k134 (i134 + 1) (upd a_trainOf_134 ((40 * v_v) + (nI i134)).toNatClampNeg v_train) (upd a_carOf_134 ((40 * v_v) + (nI i134)).toNatClampNeg v_car) (upd a_placeOf_134 ((40 * v_v) + (nI i134)).toNatClampNeg (a_newPlace_134 (nI i134).toNatClampNeg)) a_newPlace_134 a_isMoved_134
      else none
def mX12_renumbers_58 (v_v : Int32) (v_old : Int32) (v_oldCar : Int32) (a_sizeOf : Nat → Int32) (a_trainOf : Nat → Int32) (a_carOf : Nat → Int32) (a_placeOf : Nat → Int32) (i3 : Nat) (K3 : (Nat → Int32) → (Nat → Int32) → Option ((Nat → Int32) × (Nat → Int32) × (Nat → Int32) × (Nat → Int32) × (Nat → Int32))) : Nat → Nat → (Nat → Int32) → (Nat → Int32) → Option ((Nat → Int32) × (Nat → Int32) × (Nat → Int32) × (Nat → Int32) × (Nat → Int32))
  | 0, i58, a_newPlace_58, a_isMoved_58 => K3 a_newPlace_58 a_isMoved_58
  | k58 + 1, i58, a_newPlace_58, a_isMoved_58 =>
    (mX12_isIn v_v (nI i58) v_old v_oldCar a_sizeOf a_trainOf a_carOf).bind (fun q4 =>
      if q4 = true then
        if xinb ((40 * v_v) + (nI i58)) 880 = true then
          if xinb ((40 * v_v) + (nI i3)) 880 = true then
            if (a_placeOf ((40 * v_v) + (nI i58)).toNatClampNeg) < (a_placeOf ((40 * v_v) + (nI i3)).toNatClampNeg) then
              mX12_renumbers_58 v_v v_old v_oldCar a_sizeOf a_trainOf a_carOf a_placeOf i3 K3 k58 (i58 + 1) (upd a_newPlace_58 (nI i3).toNatClampNeg ((a_newPlace_58 (nI i3).toNatClampNeg) + 1)) a_isMoved_58
            else
              mX12_renumbers_58 v_v v_old v_oldCar a_sizeOf a_trainOf a_carOf a_placeOf i3 K3 k58 (i58 + 1) (upd a_newPlace_58 (nI i3).toNatClampNeg ((a_newPlace_58 (nI i3).toNatClampNeg) + 0)) a_isMoved_58
          else none
        else none
      else
        mX12_renumbers_58 v_v v_old v_oldCar a_sizeOf a_trainOf a_carOf a_placeOf i3 K3 k58 (i58 + 1) (upd a_newPlace_58 (nI i3).toNatClampNeg ((a_newPlace_58 (nI i3).toNatClampNeg) + 0)) a_isMoved_58)
def mX12_renumbers_33 (v_v : Int32) (v_old : Int32) (v_oldCar : Int32) (a_sizeOf : Nat → Int32) (a_trainOf : Nat → Int32) (a_carOf : Nat → Int32) (a_placeOf : Nat → Int32) (a_isMoved_3 : Nat → Int32) (a_newPlace_3 : Nat → Int32) (i3 : Nat) (K3 : (Nat → Int32) → (Nat → Int32) → Option ((Nat → Int32) × (Nat → Int32) × (Nat → Int32) × (Nat → Int32) × (Nat → Int32))) (s0_33 : Int32) : Option ((Nat → Int32) × (Nat → Int32) × (Nat → Int32) × (Nat → Int32) × (Nat → Int32)) :=
  if ((upd a_isMoved_3 (nI i3).toNatClampNeg s0_33) (nI i3).toNatClampNeg) = 0 then
    K3 a_newPlace_3 (upd a_isMoved_3 (nI i3).toNatClampNeg s0_33)
  else
    mX12_renumbers_58 v_v v_old v_oldCar a_sizeOf a_trainOf a_carOf a_placeOf i3 K3 40 0 (upd a_newPlace_3 (nI i3).toNatClampNeg 0) (upd a_isMoved_3 (nI i3).toNatClampNeg s0_33)
def mX12_renumbers_3 (v_v : Int32) (v_old : Int32) (v_oldCar : Int32) (v_train : Int32) (v_car : Int32) (a_sizeOf : Nat → Int32) (a_trainOf : Nat → Int32) (a_carOf : Nat → Int32) (a_placeOf : Nat → Int32)  : Nat → Nat → (Nat → Int32) → (Nat → Int32) → Option ((Nat → Int32) × (Nat → Int32) × (Nat → Int32) × (Nat → Int32) × (Nat → Int32))
  | 0, i3, a_newPlace_3, a_isMoved_3 => mX12_renumbers_134 v_v v_train v_car 40 0 a_trainOf a_carOf a_placeOf a_newPlace_3 a_isMoved_3
  | k3 + 1, i3, a_newPlace_3, a_isMoved_3 =>
    (mX12_isIn v_v (nI i3) v_old v_oldCar a_sizeOf a_trainOf a_carOf).bind (fun q1 =>
      if q1 = true then
        mX12_renumbers_33 v_v v_old v_oldCar a_sizeOf a_trainOf a_carOf a_placeOf a_isMoved_3 a_newPlace_3 i3 (fun za_newPlace_3 za_isMoved_3 => mX12_renumbers_3 v_v v_old v_oldCar v_train v_car a_sizeOf a_trainOf a_carOf a_placeOf k3 (i3 + 1) za_newPlace_3 za_isMoved_3) (1 : Int32)
      else
        mX12_renumbers_33 v_v v_old v_oldCar a_sizeOf a_trainOf a_carOf a_placeOf a_isMoved_3 a_newPlace_3 i3 (fun za_newPlace_3 za_isMoved_3 => mX12_renumbers_3 v_v v_old v_oldCar v_train v_car a_sizeOf a_trainOf a_carOf a_placeOf k3 (i3 + 1) za_newPlace_3 za_isMoved_3) (0 : Int32))
def mX12_renumbers (v_v : Int32) (v_old : Int32) (v_oldCar : Int32) (v_train : Int32) (v_car : Int32) (a_sizeOf : Nat → Int32) (a_trainOf : Nat → Int32) (a_carOf : Nat → Int32) (a_placeOf : Nat → Int32) (a_newPlace : Nat → Int32) (a_isMoved : Nat → Int32) : Option ((Nat → Int32) × (Nat → Int32) × (Nat → Int32) × (Nat → Int32) × (Nat → Int32)) :=
  mX12_renumbers_3 v_v v_old v_oldCar v_train v_car a_sizeOf a_trainOf a_carOf a_placeOf 40 0 a_newPlace a_isMoved
def mX12_closes_32 (v_v : Int32) (a_sizeOf : Nat → Int32) (x2_11 : Int32) (x3_11 : Int32) (x4_11 : Int32) (K11 : Int32 → Int32 → Int32 → (Nat → Int32) → (Nat → Int32) → (Nat → Int32) → (Nat → Int32) → (Nat → Int32) → Option ((Nat → Int32) × (Nat → Int32) × (Nat → Int32) × (Nat → Int32) × (Nat → Int32))) : Nat → Int32 → Int32 → Int32 → (Nat → Int32) → (Nat → Int32) → (Nat → Int32) → (Nat → Int32) → (Nat → Int32) → Option ((Nat → Int32) × (Nat → Int32) × (Nat → Int32) × (Nat → Int32) × (Nat → Int32))
  | 0, x5_32, x6_32, x7_32, a_trainOf_32, a_carOf_32, a_placeOf_32, a_newPlace_32, a_isMoved_32 => none
  | k32 + 1, x5_32, x6_32, x7_32, a_trainOf_32, a_carOf_32, a_placeOf_32, a_newPlace_32, a_isMoved_32 =>
    if x7_32 < x6_32 then
      (mX12_thingsIn v_v x4_11 x7_32 a_sizeOf a_trainOf_32 a_carOf_32).bind (fun q5 =>
        if q5 = 0 then
          mX12_closes_32 v_v a_sizeOf x2_11 x3_11 x4_11 K11 k32 x5_32 x6_32 (x7_32 + 1) a_trainOf_32 a_carOf_32 a_placeOf_32 a_newPlace_32 a_isMoved_32
        else
          (mX12_renumbers v_v x4_11 x7_32 x2_11 x5_32 a_sizeOf a_trainOf_32 a_carOf_32 a_placeOf_32 a_newPlace_32 a_isMoved_32).bind (xu fun q7_1 => xu fun q7_2 => xu fun q7_3 => xu fun q7_4 => fun q7_5 =>
            mX12_closes_32 v_v a_sizeOf x2_11 x3_11 x4_11 K11 k32 (x5_32 + 1) x6_32 (x7_32 + 1) q7_1 q7_2 q7_3 q7_4 q7_5))
    else
      if 0 < x5_32 then
        K11 (x2_11 + 1) x3_11 (x4_11 + 1) a_trainOf_32 a_carOf_32 a_placeOf_32 a_newPlace_32 a_isMoved_32
      else
        K11 x2_11 x3_11 (x4_11 + 1) a_trainOf_32 a_carOf_32 a_placeOf_32 a_newPlace_32 a_isMoved_32
def mX12_closes_11 (v_v : Int32) (a_sizeOf : Nat → Int32)  : Nat → Int32 → Int32 → Int32 → (Nat → Int32) → (Nat → Int32) → (Nat → Int32) → (Nat → Int32) → (Nat → Int32) → Option ((Nat → Int32) × (Nat → Int32) × (Nat → Int32) × (Nat → Int32) × (Nat → Int32))
  | 0, x2_11, x3_11, x4_11, a_trainOf_11, a_carOf_11, a_placeOf_11, a_newPlace_11, a_isMoved_11 => none
  | k11 + 1, x2_11, x3_11, x4_11, a_trainOf_11, a_carOf_11, a_placeOf_11, a_newPlace_11, a_isMoved_11 =>
    if x4_11 < x3_11 then
      (mX12_carsOf v_v x4_11 a_sizeOf a_trainOf_11 a_carOf_11).bind (fun q3 =>
        mX12_closes_32 v_v a_sizeOf x2_11 x3_11 x4_11 (fun zx2_11 zx3_11 zx4_11 za_trainOf_11 za_carOf_11 za_placeOf_11 za_newPlace_11 za_isMoved_11 => mX12_closes_11 v_v a_sizeOf k11 zx2_11 zx3_11 zx4_11 za_trainOf_11 za_carOf_11 za_placeOf_11 za_newPlace_11 za_isMoved_11) xfuel (0 : Int32) q3 (0 : Int32) a_trainOf_11 a_carOf_11 a_placeOf_11 a_newPlace_11 a_isMoved_11)
    else
      some (a_trainOf_11, a_carOf_11, a_placeOf_11, a_newPlace_11, a_isMoved_11)
def mX12_closes (v_v : Int32) (a_sizeOf : Nat → Int32) (a_trainOf : Nat → Int32) (a_carOf : Nat → Int32) (a_placeOf : Nat → Int32) (a_newPlace : Nat → Int32) (a_isMoved : Nat → Int32) : Option ((Nat → Int32) × (Nat → Int32) × (Nat → Int32) × (Nat → Int32) × (Nat → Int32)) :=
  (mX12_trainsOf v_v a_sizeOf a_trainOf).bind (fun q1 =>
    mX12_closes_11 v_v a_sizeOf xfuel (0 : Int32) q1 (0 : Int32) a_trainOf a_carOf a_placeOf a_newPlace a_isMoved)
def mX12_isRooted_2 (v_v : Int32) (v_t : Int32) (a_rootTo : Nat → Int32)  : Nat → Nat → Option (Bool)
  | 0, i2 => some false
  | k2 + 1, i2 =>
    if xinb ((8 * v_v) + (nI i2)) 176 = true then
      if (a_rootTo ((8 * v_v) + (nI i2)).toNatClampNeg) = v_t then
        some true
      else
        mX12_isRooted_2 v_v v_t a_rootTo k2 (i2 + 1)
    else none
def mX12_isRooted (v_v : Int32) (v_t : Int32) (a_rootTo : Nat → Int32) : Option (Bool) :=
  mX12_isRooted_2 v_v v_t a_rootTo 8 0
def mX12_stirs_2   : Nat → Nat → (Nat → Int32) → (Nat → Int32)
  | 0, i2, a_isStaying_2 => a_isStaying_2
  | k2 + 1, i2, a_isStaying_2 =>
    mX12_stirs_2 k2 (i2 + 1) (upd a_isStaying_2 (nI i2).toNatClampNeg 0)
def mX12_stirs (a_isStaying : Nat → Int32) : (Nat → Int32) :=
  mX12_stirs_2 40 0 a_isStaying
def mX12_trainNow (v_v : Int32) (v_t : Int32) (a_trainOf : Nat → Int32) (a_isStaying : Nat → Int32) (a_stayTrain : Nat → Int32) : Option (Int32) :=
  if xinb v_t 40 = true then
    if (a_isStaying v_t.toNatClampNeg) = 1 then
      some (a_stayTrain v_t.toNatClampNeg)
    else
      if xinb ((40 * v_v) + v_t) 880 = true then
        some (a_trainOf ((40 * v_v) + v_t).toNatClampNeg)
      else none
  else none
def mX12_areTogether (v_v : Int32) (v_a : Int32) (v_b : Int32) (a_trainOf : Nat → Int32) (a_carOf : Nat → Int32) (a_isStaying : Nat → Int32) : Option (Bool) :=
  if xinb v_a 40 = true then
    if xinb v_b 40 = true then
      if (a_isStaying v_a.toNatClampNeg) = (a_isStaying v_b.toNatClampNeg) then
        if (a_isStaying v_a.toNatClampNeg) = 1 then
          some true
        else
          if xinb ((40 * v_v) + v_a) 880 = true then
            if xinb ((40 * v_v) + v_b) 880 = true then
              if (a_trainOf ((40 * v_v) + v_a).toNatClampNeg) = (a_trainOf ((40 * v_v) + v_b).toNatClampNeg) then
                if (a_carOf ((40 * v_v) + v_a).toNatClampNeg) = (a_carOf ((40 * v_v) + v_b).toNatClampNeg) then
                  some true
                else
                  some false
              else
                some false
            else none
          else none
      else
        some false
    else none
  else none
