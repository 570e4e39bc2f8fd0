def mJ13_bitCount_95d88 (v_x : Int64) : Int32 :=
  (((((((((v_x - (((v_x.toUInt64 >>> ((1 : Int32).toInt64.toUInt64 &&& Int64.toUInt64 63)).toInt64) &&& 6148914691236517205)) &&& 3689348814741910323) + ((((v_x - (((v_x.toUInt64 >>> ((1 : Int32).toInt64.toUInt64 &&& Int64.toUInt64 63)).toInt64) &&& 6148914691236517205)).toUInt64 >>> ((2 : Int32).toInt64.toUInt64 &&& Int64.toUInt64 63)).toInt64) &&& 3689348814741910323)) + (((((v_x - (((v_x.toUInt64 >>> ((1 : Int32).toInt64.toUInt64 &&& Int64.toUInt64 63)).toInt64) &&& 6148914691236517205)) &&& 3689348814741910323) + ((((v_x - (((v_x.toUInt64 >>> ((1 : Int32).toInt64.toUInt64 &&& Int64.toUInt64 63)).toInt64) &&& 6148914691236517205)).toUInt64 >>> ((2 : Int32).toInt64.toUInt64 &&& Int64.toUInt64 63)).toInt64) &&& 3689348814741910323)).toUInt64 >>> ((4 : Int32).toInt64.toUInt64 &&& Int64.toUInt64 63)).toInt64)) &&& 1085102592571150095) + (((((((v_x - (((v_x.toUInt64 >>> ((1 : Int32).toInt64.toUInt64 &&& Int64.toUInt64 63)).toInt64) &&& 6148914691236517205)) &&& 3689348814741910323) + ((((v_x - (((v_x.toUInt64 >>> ((1 : Int32).toInt64.toUInt64 &&& Int64.toUInt64 63)).toInt64) &&& 6148914691236517205)).toUInt64 >>> ((2 : Int32).toInt64.toUInt64 &&& Int64.toUInt64 63)).toInt64) &&& 3689348814741910323)) + (((((v_x - (((v_x.toUInt64 >>> ((1 : Int32).toInt64.toUInt64 &&& Int64.toUInt64 63)).toInt64) &&& 6148914691236517205)) &&& 3689348814741910323) + ((((v_x - (((v_x.toUInt64 >>> ((1 : Int32).toInt64.toUInt64 &&& Int64.toUInt64 63)).toInt64) &&& 6148914691236517205)).toUInt64 >>> ((2 : Int32).toInt64.toUInt64 &&& Int64.toUInt64 63)).toInt64) &&& 3689348814741910323)).toUInt64 >>> ((4 : Int32).toInt64.toUInt64 &&& Int64.toUInt64 63)).toInt64)) &&& 1085102592571150095).toUInt64 >>> ((8 : Int32).toInt64.toUInt64 &&& Int64.toUInt64 63)).toInt64)) + ((((((((v_x - (((v_x.toUInt64 >>> ((1 : Int32).toInt64.toUInt64 &&& Int64.toUInt64 63)).toInt64) &&& 6148914691236517205)) &&& 3689348814741910323) + ((((v_x - (((v_x.toUInt64 >>> ((1 : Int32).toInt64.toUInt64 &&& Int64.toUInt64 63)).toInt64) &&& 6148914691236517205)).toUInt64 >>> ((2 : Int32).toInt64.toUInt64 &&& Int64.toUInt64 63)).toInt64) &&& 3689348814741910323)) + (((((v_x - (((v_x.toUInt64 >>> ((1 : Int32).toInt64.toUInt64 &&& Int64.toUInt64 63)).toInt64) &&& 6148914691236517205)) &&& 3689348814741910323) + ((((v_x - (((v_x.toUInt64 >>> ((1 : Int32).toInt64.toUInt64 &&& Int64.toUInt64 63)).toInt64) &&& 6148914691236517205)).toUInt64 >>> ((2 : Int32).toInt64.toUInt64 &&& Int64.toUInt64 63)).toInt64) &&& 3689348814741910323)).toUInt64 >>> ((4 : Int32).toInt64.toUInt64 &&& Int64.toUInt64 63)).toInt64)) &&& 1085102592571150095) + (((((((v_x - (((v_x.toUInt64 >>> ((1 : Int32).toInt64.toUInt64 &&& Int64.toUInt64 63)).toInt64) &&& 6148914691236517205)) &&& 3689348814741910323) + ((((v_x - (((v_x.toUInt64 >>> ((1 : Int32).toInt64.toUInt64 &&& Int64.toUInt64 63)).toInt64) &&& 6148914691236517205)).toUInt64 >>> ((2 : Int32).toInt64.toUInt64 &&& Int64.toUInt64 63)).toInt64) &&& 3689348814741910323)) + (((((v_x - (((v_x.toUInt64 >>> ((1 : Int32).toInt64.toUInt64 &&& Int64.toUInt64 63)).toInt64) &&& 6148914691236517205)) &&& 3689348814741910323) + ((((v_x - (((v_x.toUInt64 >>> ((1 : Int32).toInt64.toUInt64 &&& Int64.toUInt64 63)).toInt64) &&& 6148914691236517205)).toUInt64 >>> ((2 : Int32).toInt64.toUInt64 &&& Int64.toUInt64 63)).toInt64) &&& 3689348814741910323)).toUInt64 >>> ((4 : Int32).toInt64.toUInt64 &&& Int64.toUInt64 63)).toInt64)) &&& 1085102592571150095).toUInt64 >>> ((8 : Int32).toInt64.toUInt64 &&& Int64.toUInt64 63)).toInt64)).toUInt64 >>> ((16 : Int32).toInt64.toUInt64 &&& Int64.toUInt64 63)).toInt64)) + (((((((((v_x - (((v_x.toUInt64 >>> ((1 : Int32).toInt64.toUInt64 &&& Int64.toUInt64 63)).toInt64) &&& 6148914691236517205)) &&& 3689348814741910323) + ((((v_x - (((v_x.toUInt64 >>> ((1 : Int32).toInt64.toUInt64 &&& Int64.toUInt64 63)).toInt64) &&& 6148914691236517205)).toUInt64 >>> ((2 : Int32).toInt64.toUInt64 &&& Int64.toUInt64 63)).toInt64) &&& 3689348814741910323)) + (((((v_x - (((v_x.toUInt64 >>> ((1 : Int32).toInt64.toUInt64 &&& Int64.toUInt64 63)).toInt64) &&& 6148914691236517205)) &&& 3689348814741910323) + ((((v_x - (((v_x.toUInt64 >>> ((1 : Int32).toInt64.toUInt64 &&& Int64.toUInt64 63)).toInt64) &&& 6148914691236517205)).toUInt64 >>> ((2 : Int32).toInt64.toUInt64 &&& Int64.toUInt64 63)).toInt64) &&& 3689348814741910323)).toUInt64 >>> ((4 : Int32).toInt64.toUInt64 &&& Int64.toUInt64 63)).toInt64)) &&& 1085102592571150095) + (((((((v_x - (((v_x.toUInt64 >>> ((1 : Int32).toInt64.toUInt64 &&& Int64.toUInt64 63)).toInt64) &&& 6148914691236517205)) &&& 3689348814741910323) + ((((v_x - (((v_x.toUInt64 >>> ((1 : Int32).toInt64.toUInt64 &&& Int64.toUInt64 63)).toInt64) &&& 6148914691236517205)).toUInt64 >>> ((2 : Int32).toInt64.toUInt64 &&& Int64.toUInt64 63)).toInt64) &&& 3689348814741910323)) + (((((v_x - (((v_x.toUInt64 >>> ((1 : Int32).toInt64.toUInt64 &&& Int64.toUInt64 63)).toInt64) &&& 6148914691236517205)) &&& 3689348814741910323) + ((((v_x - (((v_x.toUInt64 >>> ((1 : Int32).toInt64.toUInt64 &&& Int64.toUInt64 63)).toInt64) &&& 6148914691236517205)).toUInt64 >>> ((2 : Int32).toInt64.toUInt64 &&& Int64.toUInt64 63)).toInt64) &&& 3689348814741910323)).toUInt64 >>> ((4 : Int32).toInt64.toUInt64 &&& Int64.toUInt64 63)).toInt64)) &&& 1085102592571150095).toUInt64 >>> ((8 : Int32).toInt64.toUInt64 &&& Int64.toUInt64 63)).toInt64)) + ((((((((v_x - (((v_x.toUInt64 >>> ((1 : Int32).toInt64.toUInt64 &&& Int64.toUInt64 63)).toInt64) &&& 6148914691236517205)) &&& 3689348814741910323) + ((((v_x - (((v_x.toUInt64 >>> ((1 : Int32).toInt64.toUInt64 &&& Int64.toUInt64 63)).toInt64) &&& 6148914691236517205)).toUInt64 >>> ((2 : Int32).toInt64.toUInt64 &&& Int64.toUInt64 63)).toInt64) &&& 3689348814741910323)) + (((((v_x - (((v_x.toUInt64 >>> ((1 : Int32).toInt64.toUInt64 &&& Int64.toUInt64 63)).toInt64) &&& 6148914691236517205)) &&& 3689348814741910323) + ((((v_x - (((v_x.toUInt64 >>> ((1 : Int32).toInt64.toUInt64 &&& Int64.toUInt64 63)).toInt64) &&& 6148914691236517205)).toUInt64 >>> ((2 : Int32).toInt64.toUInt64 &&& Int64.toUInt64 63)).toInt64) &&& 3689348814741910323)).toUInt64 >>> ((4 : Int32).toInt64.toUInt64 &&& Int64.toUInt64 63)).toInt64)) &&& 1085102592571150095) + (((((((v_x - (((v_x.toUInt64 >>> ((1 : Int32).toInt64.toUInt64 &&& Int64.toUInt64 63)).toInt64) &&& 6148914691236517205)) &&& 3689348814741910323) + ((((v_x - (((v_x.toUInt64 >>> ((1 : Int32).toInt64.toUInt64 &&& Int64.toUInt64 63)).toInt64) &&& 6148914691236517205)).toUInt64 >>> ((2 : Int32).toInt64.toUInt64 &&& Int64.toUInt64 63)).toInt64) &&& 3689348814741910323)) + (((((v_x - (((v_x.toUInt64 >>> ((1 : Int32).toInt64.toUInt64 &&& Int64.toUInt64 63)).toInt64) &&& 6148914691236517205)) &&& 3689348814741910323) + ((((v_x - (((v_x.toUInt64 >>> ((1 : Int32).toInt64.toUInt64 &&& Int64.toUInt64 63)).toInt64) &&& 6148914691236517205)).toUInt64 >>> ((2 : Int32).toInt64.toUInt64 &&& Int64.toUInt64 63)).toInt64) &&& 3689348814741910323)).toUInt64 >>> ((4 : Int32).toInt64.toUInt64 &&& Int64.toUInt64 63)).toInt64)) &&& 1085102592571150095).toUInt64 >>> ((8 : Int32).toInt64.toUInt64 &&& Int64.toUInt64 63)).toInt64)).toUInt64 >>> ((16 : Int32).toInt64.toUInt64 &&& Int64.toUInt64 63)).toInt64)).toUInt64 >>> ((32 : Int32).toInt64.toUInt64 &&& Int64.toUInt64 63)).toInt64)).toInt32) &&& 127
def mJ7_fill_53178_5 (v_v : Int32)  : Nat → Nat → (Nat → Int32) → (Nat → Int32)
  | 0, i5, a_row_5 => a_row_5
  | k5 + 1, i5, a_row_5 =>
    mJ7_fill_53178_5 v_v k5 (i5 + 1) (upd a_row_5 (nI i5).toNatClampNeg v_v)
def mJ7_fill_53178 (n_row : Nat) (v_v : Int32) (a_row : Nat → Int32) : (Nat → Int32) :=
  mJ7_fill_53178_5 v_v n_row 0 a_row
def mJ7_fill_d0a16_6 (v_v : Int64)  : Nat → Nat → (Nat → Int64) → (Nat → Int64)
  | 0, i6, a_row_6 => a_row_6
  | k6 + 1, i6, a_row_6 =>
    mJ7_fill_d0a16_6 v_v k6 (i6 + 1) (vp_updL a_row_6 (nI i6).toNatClampNeg v_v)
def mJ7_fill_d0a16 (n_row : Nat) (v_v : Int64) (a_row : Nat → Int64) : (Nat → Int64) :=
  mJ7_fill_d0a16_6 v_v n_row 0 a_row
def mJ9_floorDiv_7cf53 (v_x : Int32) (v_y : Int32) : Int32 :=
  if (v_x ^^^ v_y) < 0 then
    if ((v_x / v_y) * v_y) = v_x then
      v_x / v_y
    else
      (v_x / v_y) - 1
  else
    v_x / v_y
def mJ9_floorMod_7cf53 (v_x : Int32) (v_y : Int32) : Int32 :=
  if (v_x ^^^ v_y) < 0 then
    if (v_x - v_x / v_y * v_y) = 0 then
      v_x - v_x / v_y * v_y
    else
      (v_x - v_x / v_y * v_y) + v_y
  else
    v_x - v_x / v_y * v_y
def mJ9_max_7cf53 (v_x : Int32) (v_y : Int32) : Int32 :=
  if v_x < v_y then
    v_y
  else
    v_x
def mX11_at (n_row : Nat) (v_k : Int32) (a_row : Nat → Int32) : Int32 :=
  if v_k < 0 then
    ((-1) : Int32)
  else
    if v_k < (Int32.ofNat n_row) then
      a_row v_k.toNatClampNeg
    else
      ((-1) : Int32)
def mX11_put (n_row : Nat) (v_k : Int32) (v_value : Int32) (a_row : Nat → Int32) : (Nat → Int32) :=
  if v_k < 0 then
    a_row
  else
    if v_k < (Int32.ofNat n_row) then
      upd a_row v_k.toNatClampNeg v_value
    else
      a_row
def mX11_in (v_group : Int64) (v_thing : Int32) : Bool :=
  if v_thing < 0 then
    false
  else
    if v_thing < 40 then
      if (((v_group.toUInt64 >>> (v_thing.toInt64.toUInt64 &&& Int64.toUInt64 63)).toInt64) &&& 1) = (0 : Int64) then
        false
      else
        true
    else
      false
def mX11_bit (v_thing : Int32) : Int64 :=
  if v_thing < 0 then
    (0 : Int64)
  else
    if v_thing < 40 then
      1 <<< (v_thing.toInt64 &&& 63)
    else
      (0 : Int64)
def mX11_maskAt (n_row : Nat) (v_k : Int32) (a_row : Nat → Int64) : Int64 :=
  if v_k < 0 then
    (0 : Int64)
  else
    if v_k < (Int32.ofNat n_row) then
      a_row v_k.toNatClampNeg
    else
      (0 : Int64)
def mX11_putMask (n_row : Nat) (v_k : Int32) (v_value : Int64) (a_row : Nat → Int64) : (Nat → Int64) :=
  if v_k < 0 then
    a_row
  else
    if v_k < (Int32.ofNat n_row) then
      vp_updL a_row v_k.toNatClampNeg v_value
    else
      a_row
def mX11_lowest (v_group : Int64) : Int32 :=
  mJ13_bitCount_95d88 ((v_group &&& (-v_group)) - 1)
def mX11_nth_30   (x3_30 : Int64) : Int32 :=
  if x3_30 = (0 : Int64) then
    ((-1) : Int32)
  else
    mX11_lowest x3_30
def mX11_nth_5 (v_n : Int32)  : Nat → Nat → Int64 → Int32
  | 0, i5, x3_5 => if (nI i5) < v_n then
      mX11_nth_30 x3_5
    else
      mX11_nth_30 x3_5
  | k5 + 1, i5, x3_5 =>
    if (nI i5) < v_n then
      mX11_nth_5 v_n k5 (i5 + 1) (x3_5 &&& (x3_5 - 1))
    else
      mX11_nth_30 x3_5
def mX11_nth (v_group : Int64) (v_n : Int32) : Int32 :=
  mX11_nth_5 v_n 40 0 v_group
def mX10_clear (a_size : Nat → Int32) (a_age : Nat → Int32) (a_links : Nat → Int32) (a_roots : Nat → Int32) (a_cars : Nat → Int32) (a_from : Nat → Int64) : Int64 × Int64 × Int32 × Int32 × (Nat → Int32) × (Nat → Int32) × (Nat → Int32) × (Nat → Int32) × (Nat → Int32) × (Nat → Int64) :=
  xlet (mJ7_fill_53178 40 (0 : Int32) a_size) (fun q1 =>
    xlet (mJ7_fill_53178 40 (0 : Int32) a_age) (fun q2 =>
      xlet (mJ7_fill_53178 160 ((-1) : Int32) a_links) (fun q3 =>
        xlet (mJ7_fill_53178 8 ((-1) : Int32) a_roots) (fun q4 =>
          xlet (mJ7_fill_53178 42 (0 : Int32) a_cars) (fun q5 =>
            xlet (mJ7_fill_d0a16 40 (0 : Int64) a_from) (fun q6 =>
              ((0 : Int64), (0 : Int64), (0 : Int32), (0 : Int32), q1, q2, q3, q4, q5, q6)))))))
def mX10_copy (a_size : Nat → Int32) (a_age : Nat → Int32) (a_train : Nat → Int32) (a_car : Nat → Int32) (a_place : Nat → Int32) (a_links : Nat → Int32) (a_roots : Nat → Int32) (a_cars : Nat → Int32) (a_from : Nat → Int64) (other_f_there : Int64) (other_f_marked : Int64) (other_f_trains : Int32) (other_f_step : Int32) (other_a_size : Nat → Int32) (other_a_age : Nat → Int32) (other_a_train : Nat → Int32) (other_a_car : Nat → Int32) (other_a_place : Nat → Int32) (other_a_links : Nat → Int32) (other_a_roots : Nat → Int32) (other_a_cars : Nat → Int32) (other_a_from : Nat → Int64) : Int64 × Int64 × Int32 × Int32 × (Nat → Int32) × (Nat → Int32) × (Nat → Int32) × (Nat → Int32) × (Nat → Int32) × (Nat → Int32) × (Nat → Int32) × (Nat → Int32) × (Nat → Int64) :=
  (other_f_there, other_f_marked, other_f_trains, other_f_step, va_cpy other_a_size a_size 0 0 40, va_cpy other_a_age a_age 0 0 40, va_cpy other_a_train a_train 0 0 40, va_cpy other_a_car a_car 0 0 40, va_cpy other_a_place a_place 0 0 40, va_cpy other_a_links a_links 0 0 160, va_cpy other_a_roots a_roots 0 0 8, va_cpy other_a_cars a_cars 0 0 42, va_cpy other_a_from a_from 0 0 40)
def mX10_beginTrain (f_trains : Int32) (a_cars : Nat → Int32) : Int32 × (Nat → Int32) :=
  xlet (mX11_put 42 f_trains (0 : Int32) a_cars) (fun q1 =>
    (f_trains + 1, q1))
def mX10_add (v_t : Int32) (v_units : Int32) (f_there : Int64) (a_size : Nat → Int32) (a_age : Nat → Int32) : Int64 × (Nat → Int32) × (Nat → Int32) :=
  xlet (mX11_put 40 v_t v_units a_size) (fun q1 =>
    xlet (mX11_put 40 v_t (0 : Int32) a_age) (fun q2 =>
      (f_there ||| (mX11_bit v_t), q1, q2)))
def mX10_lay_126 (v_t : Int32) (v_to : Int32) (a_train : Nat → Int32) (a_car : Nat → Int32) (a_place : Nat → Int32)  (x4_126 : Int32) (x6_126 : Int32) (a_cars_126 : Nat → Int32) : (Nat → Int32) × (Nat → Int32) × (Nat → Int32) × (Nat → Int32) :=
  xlet (mX11_put 40 v_t v_to a_train) (fun q8 =>
    xlet (mX11_put 40 v_t x4_126 a_car) (fun q9 =>
      xlet (mX11_put 40 v_t x6_126 a_place) (fun q10 =>
        (q8, q9, q10, a_cars_126))))
def mX10_lay_108 (v_t : Int32) (v_to : Int32) (a_train : Nat → Int32) (a_car : Nat → Int32) (a_place : Nat → Int32) (a_cars : Nat → Int32)   : (Nat → Int32) × (Nat → Int32) × (Nat → Int32) × (Nat → Int32) :=
  xlet (mX11_put 42 v_to ((((mX11_at 42 v_to a_cars) - 1) + 1) + 1) a_cars) (fun q7 =>
    mX10_lay_126 v_t v_to a_train a_car a_place (((mX11_at 42 v_to a_cars) - 1) + 1) (0 : Int32) q7)
def mX10_lay_21 (v_t : Int32) (v_to : Int32) (v_units : Int32) (a_size : Nat → Int32) (a_train : Nat → Int32) (a_car : Nat → Int32) (a_place : Nat → Int32) (a_cars : Nat → Int32)  : Nat → Nat → Int32 → Int32 → (Nat → Int32) × (Nat → Int32) × (Nat → Int32) × (Nat → Int32)
  | 0, i21, x5_21, x6_21 => if ((mX11_at 42 v_to a_cars) - 1) < 0 then
      mX10_lay_108 v_t v_to a_train a_car a_place a_cars
    else
      if v_units < (x5_21 + (mX11_at 40 v_t a_size)) then
        mX10_lay_108 v_t v_to a_train a_car a_place a_cars
      else
        mX10_lay_126 v_t v_to a_train a_car a_place ((mX11_at 42 v_to a_cars) - 1) x6_21 a_cars
  | k21 + 1, i21, x5_21, x6_21 =>
    if (nI i21) = v_t then
      mX10_lay_21 v_t v_to v_units a_size a_train a_car a_place a_cars k21 (i21 + 1) x5_21 x6_21
    else
      if 0 < (a_size (nI i21).toNatClampNeg) then
        if (a_train (nI i21).toNatClampNeg) = v_to then
          if (a_car (nI i21).toNatClampNeg) = ((mX11_at 42 v_to a_cars) - 1) then
            mX10_lay_21 v_t v_to v_units a_size a_train a_car a_place a_cars k21 (i21 + 1) (x5_21 + (a_size (nI i21).toNatClampNeg)) (x6_21 + 1)
          else
            mX10_lay_21 v_t v_to v_units a_size a_train a_car a_place a_cars k21 (i21 + 1) x5_21 x6_21
        else
          mX10_lay_21 v_t v_to v_units a_size a_train a_car a_place a_cars k21 (i21 + 1) x5_21 x6_21
      else
        mX10_lay_21 v_t v_to v_units a_size a_train a_car a_place a_cars k21 (i21 + 1) x5_21 x6_21
def mX10_lay (v_t : Int32) (v_to : Int32) (v_units : Int32) (a_size : Nat → Int32) (a_train : Nat → Int32) (a_car : Nat → Int32) (a_place : Nat → Int32) (a_cars : Nat → Int32) : (Nat → Int32) × (Nat → Int32) × (Nat → Int32) × (Nat → Int32) :=
  mX10_lay_21 v_t v_to v_units a_size a_train a_car a_place a_cars 40 0 (0 : Int32) (0 : Int32)
def mX10_linkOf (v_t : Int32) (v_k : Int32) (a_links : Nat → Int32) : Int32 :=
  if v_t < 0 then
    ((-1) : Int32)
  else
    if v_k < 0 then
      ((-1) : Int32)
    else
      if v_k < 4 then
        mX11_at 160 ((v_t * 4) + v_k) a_links
      else
        ((-1) : Int32)
def mX10_linkedFrom_5 (v_t : Int32) (a_links : Nat → Int32)  : Nat → Nat → Int64 → Int64
  | 0, i5, x2_5 => x2_5
  | k5 + 1, i5, x2_5 =>
    mX10_linkedFrom_5 v_t a_links k5 (i5 + 1) (x2_5 ||| (mX11_bit (mX11_at 160 ((v_t * 4) + (nI i5)) a_links)))
def mX10_linkedFrom (v_t : Int32) (a_links : Nat → Int32) : Int64 :=
  mX10_linkedFrom_5 v_t a_links 4 0 (0 : Int64)
def mX10_point_67 (v_t : Int32) (v_to : Int32)  (a_links_67 : Nat → Int32) (a_from_67 : Nat → Int64) : (Nat → Int32) × (Nat → Int64) :=
  xlet (mX11_putMask 40 v_to ((mX11_maskAt 40 v_to a_from_67) ||| (mX11_bit v_t)) a_from_67) (fun q5 =>
    (a_links_67, q5))
def mX10_point (v_t : Int32) (v_k : Int32) (v_to : Int32) (a_links : Nat → Int32) (a_from : Nat → Int64) : (Nat → Int32) × (Nat → Int64) :=
  xlet (mX11_put 160 ((v_t * 4) + v_k) v_to a_links) (fun q1 =>
    if (mX10_linkOf v_t v_k a_links) = (-1) then
      mX10_point_67 v_t v_to q1 a_from
    else
      if (mX11_in (mX10_linkedFrom v_t q1) (mX10_linkOf v_t v_k a_links)) = true then
        mX10_point_67 v_t v_to q1 a_from
      else
        xlet (mX11_putMask 40 (mX10_linkOf v_t v_k a_links) ((mX11_maskAt 40 (mX10_linkOf v_t v_k a_links) a_from) &&& ((mX11_bit v_t) ^^^ (-1))) a_from) (fun q4 =>
          mX10_point_67 v_t v_to q1 q4))
def mX10_settle_126 (plan_a_roots : Nat → Int32)  (f_there_126 : Int64) (f_marked_126 : Int64) (f_trains_126 : Int32) (f_step_126 : Int32) (a_size_126 : Nat → Int32) (a_age_126 : Nat → Int32) (a_train_126 : Nat → Int32) (a_car_126 : Nat → Int32) (a_place_126 : Nat → Int32) (a_links_126 : Nat → Int32) (a_roots_126 : Nat → Int32) (a_cars_126 : Nat → Int32) (a_from_126 : Nat → Int64) : Int64 × Int64 × Int32 × Int32 × (Nat → Int32) × (Nat → Int32) × (Nat → Int32) × (Nat → Int32) × (Nat → Int32) × (Nat → Int32) × (Nat → Int32) × (Nat → Int32) × (Nat → Int64) :=
  (f_there_126, f_marked_126, f_trains_126, f_step_126, a_size_126, a_age_126, a_train_126, a_car_126, a_place_126, a_links_126, va_cpy plan_a_roots a_roots_126 0 0 8, a_cars_126, a_from_126)
def mX10_settle_91 (plan_a_links : Nat → Int32) (a_age_75 : Nat → Int32) (a_car_75 : Nat → Int32) (a_cars_75 : Nat → Int32) (a_place_75 : Nat → Int32) (a_roots_75 : Nat → Int32) (a_size_75 : Nat → Int32) (a_train_75 : Nat → Int32) (f_marked_75 : Int64) (f_step_75 : Int32) (f_there_75 : Int64) (f_trains_75 : Int32) (i75 : Nat) (K75 : Int64 → Int64 → Int32 → Int32 → (Nat → Int32) → (Nat → Int32) → (Nat → Int32) → (Nat → Int32) → (Nat → Int32) → (Nat → Int32) → (Nat → Int32) → (Nat → Int32) → (Nat → Int64) → Int64 × Int64 × Int32 × Int32 × (Nat → Int32) × (Nat → Int32) × (Nat → Int32) × (Nat → Int32) × (Nat → Int32) × (Nat → Int32) × (Nat → Int32) × (Nat → Int32) × (Nat → Int64)) : Nat → Nat → (Nat → Int32) → (Nat → Int64) → Int64 × Int64 × Int32 × Int32 × (Nat → Int32) × (Nat → Int32) × (Nat → Int32) × (Nat → Int32) × (Nat → Int32) × (Nat → Int32) × (Nat → Int32) × (Nat → Int32) × (Nat → Int64)
  | 0, i91, a_links_91, a_from_91 => K75 f_there_75 f_marked_75 f_trains_75 f_step_75 a_size_75 a_age_75 a_train_75 a_car_75 a_place_75 a_links_91 a_roots_75 a_cars_75 a_from_91
  | k91 + 1, i91, a_links_91, a_from_91 =>
    xlet (mX10_point (nI i75) (nI i91) (mX11_at 96 (((nI i75) * 4) + (nI i91)) plan_a_links) a_links_91 a_from_91) (xu fun q11_1 => fun q11_2 =>
      mX10_settle_91 plan_a_links a_age_75 a_car_75 a_cars_75 a_place_75 a_roots_75 a_size_75 a_train_75 f_marked_75 f_step_75 f_there_75 f_trains_75 i75 K75 k91 (i91 + 1) q11_1 q11_2)
def mX10_settle_75 (plan_f_things : Int32) (plan_a_links : Nat → Int32) (plan_a_roots : Nat → Int32)  : Nat → Nat → Int64 → Int64 → Int32 → Int32 → (Nat → Int32) → (Nat → Int32) → (Nat → Int32) → (Nat → Int32) → (Nat → Int32) → (Nat → Int32) → (Nat → Int32) → (Nat → Int32) → (Nat → Int64) → Int64 × Int64 × Int32 × Int32 × (Nat → Int32) × (Nat → Int32) × (Nat → Int32) × (Nat → Int32) × (Nat → Int32) × (Nat → Int32) × (Nat → Int32) × (Nat → Int32) × (Nat → Int64)
  | 0, i75, f_there_75, f_marked_75, f_trains_75, f_step_75, a_size_75, a_age_75, a_train_75, a_car_75, a_place_75, a_links_75, a_roots_75, a_cars_75, a_from_75 => if (nI i75) < plan_f_things then
      mX10_settle_126 plan_a_roots f_there_75 f_marked_75 f_trains_75 f_step_75 a_size_75 a_age_75 a_train_75 a_car_75 a_place_75 a_links_75 a_roots_75 a_cars_75 a_from_75
    else
      mX10_settle_126 plan_a_roots f_there_75 f_marked_75 f_trains_75 f_step_75 a_size_75 a_age_75 a_train_75 a_car_75 a_place_75 a_links_75 a_roots_75 a_cars_75 a_from_75
  | k75 + 1, i75, f_there_75, f_marked_75, f_trains_75, f_step_75, a_size_75, a_age_75, a_train_75, a_car_75, a_place_75, a_links_75, a_roots_75, a_cars_75, a_from_75 =>
    if (nI i75) < plan_f_things then
      mX10_settle_91 plan_a_links a_age_75 a_car_75 a_cars_75 a_place_75 a_roots_75 a_size_75 a_train_75 f_marked_75 f_step_75 f_there_75 f_trains_75 i75 (fun zf_there_75 zf_marked_75 zf_trains_75 zf_step_75 za_size_75 za_age_75 za_train_75 za_car_75 za_place_75 za_links_75 za_roots_75 za_cars_75 za_from_75 => mX10_settle_75 plan_f_things plan_a_links plan_a_roots k75 (i75 + 1) zf_there_75 zf_marked_75 zf_trains_75 zf_step_75 za_size_75 za_age_75 za_train_75 za_car_75 za_place_75 za_links_75 za_roots_75 za_cars_75 za_from_75) 4 0 a_links_75 a_from_75
    else
      mX10_settle_126 plan_a_roots f_there_75 f_marked_75 f_trains_75 f_step_75 a_size_75 a_age_75 a_train_75 a_car_75 a_place_75 a_links_75 a_roots_75 a_cars_75 a_from_75
def mX10_settle_39 (plan_f_units : Int32) (plan_a_size : Nat → Int32) (a_age_6 : Nat → Int32) (a_car_6 : Nat → Int32) (a_from_6 : Nat → Int64) (a_links_6 : Nat → Int32) (a_place_6 : Nat → Int32) (a_roots_6 : Nat → Int32) (a_size_6 : Nat → Int32) (a_train_6 : Nat → Int32) (f_marked_6 : Int64) (f_step_6 : Int32) (f_there_6 : Int64) (i6 : Nat) (K6 : Int64 → Int64 → Int32 → Int32 → (Nat → Int32) → (Nat → Int32) → (Nat → Int32) → (Nat → Int32) → (Nat → Int32) → (Nat → Int32) → (Nat → Int32) → (Nat → Int32) → (Nat → Int64) → Int64 × Int64 × Int32 × Int32 × (Nat → Int32) × (Nat → Int32) × (Nat → Int32) × (Nat → Int32) × (Nat → Int32) × (Nat → Int32) × (Nat → Int32) × (Nat → Int32) × (Nat → Int64)) (f_trains_39 : Int32) (a_cars_39 : Nat → Int32) : Int64 × Int64 × Int32 × Int32 × (Nat → Int32) × (Nat → Int32) × (Nat → Int32) × (Nat → Int32) × (Nat → Int32) × (Nat → Int32) × (Nat → Int32) × (Nat → Int32) × (Nat → Int64) :=
  xlet (mX10_add (nI i6) (mX11_at 24 (nI i6) plan_a_size) f_there_6 a_size_6 a_age_6) (xu fun q7_1 => xu fun q7_2 => fun q7_3 =>
    xlet (mX10_lay (nI i6) (f_trains_39 - 1) plan_f_units q7_2 a_train_6 a_car_6 a_place_6 a_cars_39) (xu fun q8_1 => xu fun q8_2 => xu fun q8_3 => fun q8_4 =>
      K6 q7_1 f_marked_6 f_trains_39 f_step_6 q7_2 q7_3 q8_1 q8_2 q8_3 a_links_6 a_roots_6 q8_4 a_from_6))
def mX10_settle_35 (plan_f_units : Int32) (plan_a_size : Nat → Int32) (a_age_6 : Nat → Int32) (a_car_6 : Nat → Int32) (a_cars_6 : Nat → Int32) (a_from_6 : Nat → Int64) (a_links_6 : Nat → Int32) (a_place_6 : Nat → Int32) (a_roots_6 : Nat → Int32) (a_size_6 : Nat → Int32) (a_train_6 : Nat → Int32) (f_marked_6 : Int64) (f_step_6 : Int32) (f_there_6 : Int64) (f_trains_6 : Int32) (i6 : Nat) (K6 : Int64 → Int64 → Int32 → Int32 → (Nat → Int32) → (Nat → Int32) → (Nat → Int32) → (Nat → Int32) → (Nat → Int32) → (Nat → Int32) → (Nat → Int32) → (Nat → Int32) → (Nat → Int64) → Int64 × Int64 × Int32 × Int32 × (Nat → Int32) × (Nat → Int32) × (Nat → Int32) × (Nat → Int32) × (Nat → Int32) × (Nat → Int32) × (Nat → Int32) × (Nat → Int32) × (Nat → Int64))  : Int64 × Int64 × Int32 × Int32 × (Nat → Int32) × (Nat → Int32) × (Nat → Int32) × (Nat → Int32) × (Nat → Int32) × (Nat → Int32) × (Nat → Int32) × (Nat → Int32) × (Nat → Int64) :=
  xlet (mX10_beginTrain f_trains_6 a_cars_6) (xu fun q6_1 => fun q6_2 =>
    mX10_settle_39 plan_f_units plan_a_size a_age_6 a_car_6 a_from_6 a_links_6 a_place_6 a_roots_6 a_size_6 a_train_6 f_marked_6 f_step_6 f_there_6 i6 K6 q6_1 q6_2)
def mX10_settle_6 (plan_f_units : Int32) (plan_f_things : Int32) (plan_a_size : Nat → Int32) (plan_a_begins : Nat → Int32) (plan_a_links : Nat → Int32) (plan_a_roots : Nat → Int32)  : Nat → Nat → Int64 → Int64 → Int32 → Int32 → (Nat → Int32) → (Nat → Int32) → (Nat → Int32) → (Nat → Int32) → (Nat → Int32) → (Nat → Int32) → (Nat → Int32) → (Nat → Int32) → (Nat → Int64) → Int64 × Int64 × Int32 × Int32 × (Nat → Int32) × (Nat → Int32) × (Nat → Int32) × (Nat → Int32) × (Nat → Int32) × (Nat → Int32) × (Nat → Int32) × (Nat → Int32) × (Nat → Int64)
  | 0, i6, f_there_6, f_marked_6, f_trains_6, f_step_6, a_size_6, a_age_6, a_train_6, a_car_6, a_place_6, a_links_6, a_roots_6, a_cars_6, a_from_6 => if (nI i6) < plan_f_things then
      mX10_settle_75 plan_f_things plan_a_links plan_a_roots 24 0 f_there_6 f_marked_6 f_trains_6 f_step_6 a_size_6 a_age_6 a_train_6 a_car_6 a_place_6 a_links_6 a_roots_6 a_cars_6 a_from_6
    else
      mX10_settle_75 plan_f_things plan_a_links plan_a_roots 24 0 f_there_6 f_marked_6 f_trains_6 f_step_6 a_size_6 a_age_6 a_train_6 a_car_6 a_place_6 a_links_6 a_roots_6 a_cars_6 a_from_6
  | k6 + 1, i6, f_there_6, f_marked_6, f_trains_6, f_step_6, a_size_6, a_age_6, a_train_6, a_car_6, a_place_6, a_links_6, a_roots_6, a_cars_6, a_from_6 =>
    if (nI i6) < plan_f_things then
      if (nI i6) = 0 then
        mX10_settle_35 plan_f_units plan_a_size a_age_6 a_car_6 a_cars_6 a_from_6 a_links_6 a_place_6 a_roots_6 a_size_6 a_train_6 f_marked_6 f_step_6 f_there_6 f_trains_6 i6 (fun zf_there_6 zf_marked_6 zf_trains_6 zf_step_6 za_size_6 za_age_6 za_train_6 za_car_6 za_place_6 za_links_6 za_roots_6 za_cars_6 za_from_6 => mX10_settle_6 plan_f_units plan_f_things plan_a_size plan_a_begins plan_a_links plan_a_roots k6 (i6 + 1) zf_there_6 zf_marked_6 zf_trains_6 zf_step_6 za_size_6 za_age_6 za_train_6 za_car_6 za_place_6 za_links_6 za_roots_6 za_cars_6 za_from_6)
      else
        if (mX11_at 24 (nI i6) plan_a_begins) = 0 then
          mX10_settle_39 plan_f_units plan_a_size a_age_6 a_car_6 a_from_6 a_links_6 a_place_6 a_roots_6 a_size_6 a_train_6 f_marked_6 f_step_6 f_there_6 i6 (fun zf_there_6 zf_marked_6 zf_trains_6 zf_step_6 za_size_6 za_age_6 za_train_6 za_car_6 za_place_6 za_links_6 za_roots_6 za_cars_6 za_from_6 => mX10_settle_6 plan_f_units plan_f_things plan_a_size plan_a_begins plan_a_links plan_a_roots k6 (i6 + 1) zf_there_6 zf_marked_6 zf_trains_6 zf_step_6 za_size_6 za_age_6 za_train_6 za_car_6 za_place_6 za_links_6 za_roots_6 za_cars_6 za_from_6) f_trains_6 a_cars_6
        else
          mX10_settle_35 plan_f_units plan_a_size a_age_6 a_car_6 a_cars_6 a_from_6 a_links_6 a_place_6 a_roots_6 a_size_6 a_train_6 f_marked_6 f_step_6 f_there_6 f_trains_6 i6 (fun zf_there_6 zf_marked_6 zf_trains_6 zf_step_6 za_size_6 za_age_6 za_train_6 za_car_6 za_place_6 za_links_6 za_roots_6 za_cars_6 za_from_6 => mX10_settle_6 plan_f_units plan_f_things plan_a_size plan_a_begins plan_a_links plan_a_roots k6 (i6 + 1) zf_there_6 zf_marked_6 zf_trains_6 zf_step_6 za_size_6 za_age_6 za_train_6 za_car_6 za_place_6 za_links_6 za_roots_6 za_cars_6 za_from_6)
    else
      mX10_settle_75 plan_f_things plan_a_links plan_a_roots 24 0 f_there_6 f_marked_6 f_trains_6 f_step_6 a_size_6 a_age_6 a_train_6 a_car_6 a_place_6 a_links_6 a_roots_6 a_cars_6 a_from_6
def mX10_settle (a_size : Nat → Int32) (a_age : Nat → Int32) (a_train : Nat → Int32) (a_car : Nat → Int32) (a_place : Nat → Int32) (a_links : Nat → Int32) (a_roots : Nat → Int32) (a_cars : Nat → Int32) (a_from : Nat → Int64) (plan_f_units : Int32) (plan_f_things : Int32) (plan_a_size : Nat → Int32) (plan_a_begins : Nat → Int32) (plan_a_links : Nat → Int32) (plan_a_roots : Nat → Int32) : Int64 × Int64 × Int32 × Int32 × (Nat → Int32) × (Nat → Int32) × (Nat → Int32) × (Nat → Int32) × (Nat → Int32) × (Nat → Int32) × (Nat → Int32) × (Nat → Int32) × (Nat → Int64) :=
  xlet (mX10_clear a_size a_age a_links a_roots a_cars a_from) (xu fun q1_1 => xu fun q1_2 => xu fun q1_3 => xu fun q1_4 => xu fun q1_5 => xu fun q1_6 => xu fun q1_7 => xu fun q1_8 => xu fun q1_9 => fun q1_10 =>
    mX10_settle_6 plan_f_units plan_f_things plan_a_size plan_a_begins plan_a_links plan_a_roots 24 0 q1_1 q1_2 q1_3 q1_4 q1_5 q1_6 a_train a_car a_place q1_7 q1_8 q1_9 q1_10)
def mX10_isThere (v_t : Int32) (f_there : Int64) : Bool :=
  mX11_in f_there v_t
def mX10_leastFree_2 (f_there : Int64)  : Nat → Nat → Int32
  | 0, i2 => ((-1) : Int32)
  | k2 + 1, i2 =>
    if (mX11_in f_there (nI i2)) = true then
      mX10_leastFree_2 f_there k2 (i2 + 1)
    else
      nI i2
def mX10_leastFree (f_there : Int64) : Int32 :=
  mX10_leastFree_2 f_there 40 0
def mX10_drop_28 (v_t : Int32) (f_there : Int64) (f_marked : Int64) (a_size : Nat → Int32)  : Nat → Nat → (Nat → Int32) → (Nat → Int64) → Int64 × Int64 × (Nat → Int32) × (Nat → Int32) × (Nat → Int64)
  | 0, i28, a_links_28, a_from_28 => xlet (mX11_put 40 v_t (0 : Int32) a_size) (fun q2 =>
      (f_there &&& ((mX11_bit v_t) ^^^ (-1)), f_marked &&& ((mX11_bit v_t) ^^^ (-1)), q2, a_links_28, a_from_28))
  | k28 + 1, i28, a_links_28, a_from_28 =>
    mX10_drop_28 v_t f_there f_marked a_size k28 (i28 + 1) a_links_28 (vp_updL a_from_28 (nI i28).toNatClampNeg ((a_from_28 (nI i28).toNatClampNeg) &&& ((mX11_bit v_t) ^^^ (-1))))
def mX10_drop_2 (v_t : Int32) (f_there : Int64) (f_marked : Int64) (a_size : Nat → Int32) (a_from : Nat → Int64)  : Nat → Nat → (Nat → Int32) → Int64 × Int64 × (Nat → Int32) × (Nat → Int32) × (Nat → Int64)
  | 0, i2, a_links_2 => mX10_drop_28 v_t f_there f_marked a_size 40 0 a_links_2 a_from
  | k2 + 1, i2, a_links_2 =>
    xlet (mX11_put 160 ((v_t * 4) + (nI i2)) ((-1) : Int32) a_links_2) (fun q1 =>
      mX10_drop_2 v_t f_there f_marked a_size a_from k2 (i2 + 1) q1)
def mX10_drop (v_t : Int32) (f_there : Int64) (f_marked : Int64) (a_size : Nat → Int32) (a_links : Nat → Int32) (a_from : Nat → Int64) : Int64 × Int64 × (Nat → Int32) × (Nat → Int32) × (Nat → Int64) :=
  mX10_drop_2 v_t f_there f_marked a_size a_from 4 0 a_links
def mX10_dropFirstTrain_2 (f_trains : Int32) (a_cars : Nat → Int32)  : Nat → Nat → (Nat → Int32) → Int32 × (Nat → Int32) × (Nat → Int32)
  | 0, i2, a_train_2 => (f_trains - 1, a_train_2, va_cpy a_cars a_cars 1 0 41)
  | k2 + 1, i2, a_train_2 =>
    mX10_dropFirstTrain_2 f_trains a_cars k2 (i2 + 1) (upd a_train_2 (nI i2).toNatClampNeg ((a_train_2 (nI i2).toNatClampNeg) - 1))
def mX10_dropFirstTrain (f_trains : Int32) (a_train : Nat → Int32) (a_cars : Nat → Int32) : Int32 × (Nat → Int32) × (Nat → Int32) :=
  mX10_dropFirstTrain_2 f_trains a_cars 40 0 a_train
def mX10_dropFirstCar_2 (f_trains : Int32) (a_train : Nat → Int32) (a_cars : Nat → Int32)  : Nat → Nat → (Nat → Int32) → Int32 × (Nat → Int32) × (Nat → Int32) × (Nat → Int32)
  | 0, i2, a_car_2 => if 0 < ((upd a_cars (0 : Int32).toNatClampNeg ((a_cars (0 : Int32).toNatClampNeg) - 1)) (0 : Int32).toNatClampNeg) then
      (f_trains, a_train, a_car_2, upd a_cars (0 : Int32).toNatClampNeg ((a_cars (0 : Int32).toNatClampNeg) - 1))
    else
      xlet (mX10_dropFirstTrain f_trains a_train (upd a_cars (0 : Int32).toNatClampNeg ((a_cars (0 : Int32).toNatClampNeg) - 1))) (xu fun q3_1 => xu fun q3_2 => fun q3_3 =>
        (q3_1, q3_2, a_car_2, q3_3))
  | k2 + 1, i2, a_car_2 =>
    if (a_train (nI i2).toNatClampNeg) = 0 then
      mX10_dropFirstCar_2 f_trains a_train a_cars k2 (i2 + 1) (upd a_car_2 (nI i2).toNatClampNeg ((a_car_2 (nI i2).toNatClampNeg) - 1))
    else
      mX10_dropFirstCar_2 f_trains a_train a_cars k2 (i2 + 1) a_car_2
def mX10_dropFirstCar (f_trains : Int32) (a_train : Nat → Int32) (a_car : Nat → Int32) (a_cars : Nat → Int32) : Int32 × (Nat → Int32) × (Nat → Int32) × (Nat → Int32) :=
  mX10_dropFirstCar_2 f_trains a_train a_cars 40 0 a_car
def mX10_pass_2 (f_step : Int32) (a_size : Nat → Int32)  : Nat → Nat → (Nat → Int32) → Int32 × (Nat → Int32)
  | 0, i2, a_age_2 => if f_step < 999 then
      (f_step + 1, a_age_2)
    else
      (f_step + 0, a_age_2)
  | k2 + 1, i2, a_age_2 =>
    if 0 < (a_size (nI i2).toNatClampNeg) then
      if (a_age_2 (nI i2).toNatClampNeg) < 99 then
        mX10_pass_2 f_step a_size k2 (i2 + 1) (upd a_age_2 (nI i2).toNatClampNeg ((a_age_2 (nI i2).toNatClampNeg) + 1))
      else
        mX10_pass_2 f_step a_size k2 (i2 + 1) a_age_2
    else
      mX10_pass_2 f_step a_size k2 (i2 + 1) a_age_2
def mX10_pass (f_step : Int32) (a_size : Nat → Int32) (a_age : Nat → Int32) : Int32 × (Nat → Int32) :=
  mX10_pass_2 f_step a_size 40 0 a_age
def mX10_rooted_4 (a_roots : Nat → Int32)  : Nat → Nat → Int64 → Int64
  | 0, i4, x1_4 => x1_4
  | k4 + 1, i4, x1_4 =>
    mX10_rooted_4 a_roots k4 (i4 + 1) (x1_4 ||| (mX11_bit (a_roots (nI i4).toNatClampNeg)))
def mX10_rooted (a_roots : Nat → Int32) : Int64 :=
  mX10_rooted_4 a_roots 8 0 (0 : Int64)
def mX10_reach_12 (v_within : Int64) (a_links : Nat → Int32)  : Nat → Nat → Int64 → Int64 → Int64
  | 0, i12, x5_12, x7_12 => x5_12
  | k12 + 1, i12, x5_12, x7_12 =>
    if x7_12 = (0 : Int64) then
      x5_12
    else
      mX10_reach_12 v_within a_links k12 (i12 + 1) (x5_12 ||| (((mX10_linkedFrom (mX11_lowest x7_12) a_links) &&& v_within) &&& (x5_12 ^^^ (-1)))) ((x7_12 &&& (x7_12 - 1)) ||| (((mX10_linkedFrom (mX11_lowest x7_12) a_links) &&& v_within) &&& (x5_12 ^^^ (-1))))
def mX10_reach (v_first : Int64) (v_within : Int64) (a_links : Nat → Int32) : Int64 :=
  mX10_reach_12 v_within a_links 40 0 (v_first &&& v_within) (v_first &&& v_within)
def mX10_live (f_there : Int64) (a_links : Nat → Int32) (a_roots : Nat → Int32) : Int64 :=
  mX10_reach (mX10_rooted a_roots) f_there a_links
def mX10_riders_5 (v_inTrain : Int32) (a_size : Nat → Int32) (a_train : Nat → Int32)  : Nat → Nat → Int64 → Int64
  | 0, i5, x2_5 => x2_5
  | k5 + 1, i5, x2_5 =>
    if 0 < (a_size (nI i5).toNatClampNeg) then
      if (a_train (nI i5).toNatClampNeg) = v_inTrain then
        mX10_riders_5 v_inTrain a_size a_train k5 (i5 + 1) (x2_5 ||| (mX11_bit (nI i5)))
      else
        mX10_riders_5 v_inTrain a_size a_train k5 (i5 + 1) x2_5
    else
      mX10_riders_5 v_inTrain a_size a_train k5 (i5 + 1) x2_5
def mX10_riders (v_inTrain : Int32) (a_size : Nat → Int32) (a_train : Nat → Int32) : Int64 :=
  mX10_riders_5 v_inTrain a_size a_train 40 0 (0 : Int64)
def mX10_riders__5 (v_inTrain : Int32) (v_inCar : Int32) (a_size : Nat → Int32) (a_train : Nat → Int32) (a_car : Nat → Int32)  : Nat → Nat → Int64 → Int64
  | 0, i5, x3_5 => x3_5
  | k5 + 1, i5, x3_5 =>
    if 0 < (a_size (nI i5).toNatClampNeg) then
      if (a_train (nI i5).toNatClampNeg) = v_inTrain then
        if (a_car (nI i5).toNatClampNeg) = v_inCar then
          mX10_riders__5 v_inTrain v_inCar a_size a_train a_car k5 (i5 + 1) (x3_5 ||| (mX11_bit (nI i5)))
        else
          mX10_riders__5 v_inTrain v_inCar a_size a_train a_car k5 (i5 + 1) x3_5
      else
        mX10_riders__5 v_inTrain v_inCar a_size a_train a_car k5 (i5 + 1) x3_5
    else
      mX10_riders__5 v_inTrain v_inCar a_size a_train a_car k5 (i5 + 1) x3_5
def mX10_riders_ (v_inTrain : Int32) (v_inCar : Int32) (a_size : Nat → Int32) (a_train : Nat → Int32) (a_car : Nat → Int32) : Int64 :=
  mX10_riders__5 v_inTrain v_inCar a_size a_train a_car 40 0 (0 : Int64)
def mX10_mates (v_t : Int32) (a_size : Nat → Int32) (a_train : Nat → Int32) (a_car : Nat → Int32) : Int64 :=
  mX10_riders_ (mX11_at 40 v_t a_train) (mX11_at 40 v_t a_car) a_size a_train a_car
def mX10_allCars_4 (f_trains : Int32) (a_cars : Nat → Int32)  : Nat → Nat → Int32 → Int32
  | 0, i4, x1_4 => if (nI i4) < f_trains then
      x1_4
    else
      x1_4
  | k4 + 1, i4, x1_4 =>
    if (nI i4) < f_trains then
      mX10_allCars_4 f_trains a_cars k4 (i4 + 1) (x1_4 + (a_cars (nI i4).toNatClampNeg))
    else
      x1_4
def mX10_allCars (f_trains : Int32) (a_cars : Nat → Int32) : Int32 :=
  mX10_allCars_4 f_trains a_cars 42 0 (0 : Int32)
def mX10_load_5 (v_group : Int64) (a_size : Nat → Int32)  : Nat → Nat → Int32 → Int32
  | 0, i5, x3_5 => x3_5
  | k5 + 1, i5, x3_5 =>
    if (mX11_in v_group (nI i5)) = true then
      mX10_load_5 v_group a_size k5 (i5 + 1) (x3_5 + (a_size (nI i5).toNatClampNeg))
    else
      mX10_load_5 v_group a_size k5 (i5 + 1) (x3_5 + 0)
def mX10_load (v_group : Int64) (a_size : Nat → Int32) : Int32 :=
  mX10_load_5 v_group a_size 40 0 (0 : Int32)
def mX10_refs_94 (v_t : Int32) (a_links : Nat → Int32) (x5_59 : Int64) (K59 : Int32 → Int64 → Int32) : Nat → Nat → Int32 → Int32
  | 0, i94, x4_94 => K59 x4_94 (x5_59 &&& (x5_59 - 1))
  | k94 + 1, i94, x4_94 =>
    if (mX11_at 160 (((mX11_lowest x5_59) * 4) + (nI i94)) a_links) = v_t then
      mX10_refs_94 v_t a_links x5_59 K59 k94 (i94 + 1) (x4_94 + 1)
    else
      mX10_refs_94 v_t a_links x5_59 K59 k94 (i94 + 1) (x4_94 + 0)
def mX10_refs_59 (v_t : Int32) (a_links : Nat → Int32)  : Nat → Nat → Int32 → Int64 → Int32
  | 0, i59, x4_59, x5_59 => x4_59
  | k59 + 1, i59, x4_59, x5_59 =>
    if x5_59 = (0 : Int64) then
      x4_59
    else
      mX10_refs_94 v_t a_links x5_59 (fun zx4_59 zx5_59 => mX10_refs_59 v_t a_links k59 (i59 + 1) zx4_59 zx5_59) 4 0 x4_59
def mX10_refs_6 (v_t : Int32) (v_group : Int64) (a_links : Nat → Int32) (a_roots : Nat → Int32) (a_from : Nat → Int64)  : Nat → Nat → Int32 → Int32
  | 0, i6, x4_6 => mX10_refs_59 v_t a_links 40 0 x4_6 ((mX11_maskAt 40 v_t a_from) &&& (v_group ^^^ (-1)))
  | k6 + 1, i6, x4_6 =>
    if (a_roots (nI i6).toNatClampNeg) = v_t then
      mX10_refs_6 v_t v_group a_links a_roots a_from k6 (i6 + 1) (x4_6 + 1)
    else
      mX10_refs_6 v_t v_group a_links a_roots a_from k6 (i6 + 1) (x4_6 + 0)
def mX10_refs (v_t : Int32) (v_group : Int64) (a_links : Nat → Int32) (a_roots : Nat → Int32) (a_from : Nat → Int64) : Int32 :=
  mX10_refs_6 v_t v_group a_links a_roots a_from 8 0 (0 : Int32)
def mX10_refsInto_5 (v_group : Int64) (a_links : Nat → Int32) (a_roots : Nat → Int32) (a_from : Nat → Int64)  : Nat → Nat → Int32 → Int32
  | 0, i5, x3_5 => x3_5
  | k5 + 1, i5, x3_5 =>
    if (mX11_in v_group (nI i5)) = true then
      mX10_refsInto_5 v_group a_links a_roots a_from k5 (i5 + 1) (x3_5 + (mX10_refs (nI i5) v_group a_links a_roots a_from))
    else
      mX10_refsInto_5 v_group a_links a_roots a_from k5 (i5 + 1) (x3_5 + 0)
def mX10_refsInto (v_group : Int64) (a_links : Nat → Int32) (a_roots : Nat → Int32) (a_from : Nat → Int64) : Int32 :=
  mX10_refsInto_5 v_group a_links a_roots a_from 40 0 (0 : Int32)
def mX10_isReferredTo (v_t : Int32) (v_rooted : Int64) (v_group : Int64) (a_from : Nat → Int64) : Bool :=
  if (mX11_in v_rooted v_t) = true then
    true
  else
    if ((mX11_maskAt 40 v_t a_from) &&& (v_group ^^^ (-1))) = (0 : Int64) then
      false
    else
      true
