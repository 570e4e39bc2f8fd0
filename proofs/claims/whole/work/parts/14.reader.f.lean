def mX8_next (f_tokens : Int32) (f_now : Int32) (f_start : Int32) (a_kinds : Nat → Int32) (a_starts : Nat → Int32) (a_values : Nat → Int32) : Int32 × Int32 × Int32 × Int32 :=
  if (f_now + 1) < 0 then
    (f_now + 1, (0 : Int32), f_start, (0 : Int32))
  else
    if (f_now + 1) < f_tokens then
      if 1600 < (f_now + 1) then
        (f_now + 1, (0 : Int32), f_start, (0 : Int32))
      else
        (f_now + 1, a_kinds (f_now + 1).toNatClampNeg, a_starts (f_now + 1).toNatClampNeg, a_values (f_now + 1).toNatClampNeg)
    else
      (f_now + 1, (0 : Int32), f_start, (0 : Int32))
def mX8_fail (v_number : Int32) (v_byteAt : Int32) (f_fault : Int32) (f_place : Int32) : Int32 × Int32 :=
  if f_fault = 0 then
    (v_number, v_byteAt)
  else
    (f_fault, f_place)
def mX8_openOne_18 (f_tokens : Int32) (f_now : Int32) (f_start : Int32) (f_open : Int32) (a_kinds : Nat → Int32) (a_starts : Nat → Int32) (a_values : Nat → Int32)  (f_fault_18 : Int32) (f_place_18 : Int32) : Int32 × Int32 × Int32 × Int32 × Int32 × Int32 × Int32 :=
  xlet (mX8_next f_tokens f_now f_start a_kinds a_starts a_values) (xu fun q3_1 => xu fun q3_2 => xu fun q3_3 => fun q3_4 =>
    (f_fault_18, f_place_18, q3_1, q3_2, q3_3, q3_4, f_open + 1))
def mX8_openOne (f_fault : Int32) (f_place : Int32) (f_tokens : Int32) (f_now : Int32) (f_start : Int32) (f_open : Int32) (a_kinds : Nat → Int32) (a_starts : Nat → Int32) (a_values : Nat → Int32) : Int32 × Int32 × Int32 × Int32 × Int32 × Int32 × Int32 :=
  if f_open < 7 then
    mX8_openOne_18 f_tokens f_now f_start f_open a_kinds a_starts a_values f_fault f_place
  else
    xlet (mX8_fail (5 : Int32) f_start f_fault f_place) (xu fun q2_1 => fun q2_2 =>
      mX8_openOne_18 f_tokens f_now f_start f_open a_kinds a_starts a_values q2_1 q2_2)
def mX8_signNow (f_kind : Int32) (f_value : Int32) : Int32 :=
  if f_kind = 5 then
    f_value
  else
    ((-1) : Int32)
def mX8_where (f_kind : Int32) (f_start : Int32) (f_value : Int32) : Int32 :=
  if f_kind = 1 then
    f_value
  else
    f_start
def mX8_sign (v_c : Int32) (f_fault : Int32) (f_place : Int32) (f_tokens : Int32) (f_now : Int32) (f_kind : Int32) (f_start : Int32) (f_value : Int32) (a_kinds : Nat → Int32) (a_starts : Nat → Int32) (a_values : Nat → Int32) : Int32 × Int32 × Int32 × Int32 × Int32 × Int32 :=
  if (mX8_signNow f_kind f_value) = v_c then
    xlet (mX8_next f_tokens f_now f_start a_kinds a_starts a_values) (xu fun q2_1 => xu fun q2_2 => xu fun q2_3 => fun q2_4 =>
      (f_fault, f_place, q2_1, q2_2, q2_3, q2_4))
  else
    xlet (mX8_fail (1 : Int32) (mX8_where f_kind f_start f_value) f_fault f_place) (xu fun q3_1 => fun q3_2 =>
      xlet (mX8_next f_tokens f_now f_start a_kinds a_starts a_values) (xu fun q4_1 => xu fun q4_2 => xu fun q4_3 => fun q4_4 =>
        (q3_1, q3_2, q4_1, q4_2, q4_3, q4_4)))
def mX8_ownNow (f_kind : Int32) (f_value : Int32) : Int32 :=
  if f_kind = 4 then
    f_value
  else
    ((-1) : Int32)
def mX8_compareNow (f_kind : Int32) (f_value : Int32) : Int32 :=
  if (mX8_signNow f_kind f_value) = 60 then
    ((-17) : Int32)
  else if (mX8_signNow f_kind f_value) = 61 then
    ((-19) : Int32)
  else if (mX8_signNow f_kind f_value) = 62 then
    ((-18) : Int32)
  else 
    (0 : Int32)
def mX8_productNow (f_kind : Int32) (f_value : Int32) : Int32 :=
  if (mX8_signNow f_kind f_value) = 37 then
    ((-14) : Int32)
  else if (mX8_signNow f_kind f_value) = 42 then
    ((-12) : Int32)
  else if (mX8_signNow f_kind f_value) = 47 then
    ((-13) : Int32)
  else 
    (0 : Int32)
def mX8_factNow_44 (f_kind : Int32) (f_value : Int32) (f_topic : Int32)  (x2_44 : Int32) : Int32 :=
  if f_topic = 1 then
    if (mX8_ownNow f_kind f_value) < 14 then
      ((-1) : Int32)
    else
      if 16 < (mX8_ownNow f_kind f_value) then
        ((-1) : Int32)
      else
        ((mX8_ownNow f_kind f_value) - x2_44) + 1
  else
    if (mX8_ownNow f_kind f_value) = 12 then
      ((mX8_ownNow f_kind f_value) - x2_44) + 2
    else
      if (mX8_ownNow f_kind f_value) = 13 then
        ((mX8_ownNow f_kind f_value) - x2_44) + 2
      else
        ((-1) : Int32)
def mX8_factNow_28 (f_kind : Int32) (f_value : Int32) (f_topic : Int32)  (s0_28 : Int32) : Int32 :=
  if f_topic = 1 then
    mX8_factNow_44 f_kind f_value f_topic s0_28
  else
    if (mX8_ownNow f_kind f_value) = 2 then
      (1 : Int32)
    else
      mX8_factNow_44 f_kind f_value f_topic s0_28
def mX8_factNow (f_kind : Int32) (f_value : Int32) (f_topic : Int32) : Int32 :=
  if (mX8_ownNow f_kind f_value) = 11 then
    (0 : Int32)
  else
    if f_topic = 1 then
      mX8_factNow_28 f_kind f_value f_topic (14 : Int32)
    else
      mX8_factNow_28 f_kind f_value f_topic (12 : Int32)
def mX8_isBlank (v_c : Int32) : Bool :=
  if v_c = 10 then
    true
  else
    if v_c = 32 then
      true
    else
      false
def mX8_isLetter (v_c : Int32) : Bool :=
  if v_c < 97 then
    false
  else
    if 122 < v_c then
      false
    else
      true
def mX8_isDigit (v_c : Int32) : Bool :=
  if v_c < 48 then
    false
  else
    if 57 < v_c then
      false
    else
      true
def mX8_addToken (v_ofKind : Int32) (v_from : Int32) (v_worth : Int32) (f_tokens : Int32) (a_kinds : Nat → Int32) (a_starts : Nat → Int32) (a_values : Nat → Int32) : Int32 × (Nat → Int32) × (Nat → Int32) × (Nat → Int32) :=
  xlet (mX11_put 1601 f_tokens v_ofKind a_kinds) (fun q1 =>
    xlet (mX11_put 1601 f_tokens v_from a_starts) (fun q2 =>
      xlet (mX11_put 1601 f_tokens v_worth a_values) (fun q3 =>
        (f_tokens + 1, q1, q2, q3))))
def mX8_ownWord_49 (i16 : Nat) (i3 : Nat) (K16 : Int32 → Int32) (s0_49 : Int32) : Int32 :=
  if (((nI i3) * 6) + (nI i16)) < 144 then
    if (xow (((nI i3) * 6) + (nI i16))) = s0_49 then
      K16 (1 : Int32)
    else
      K16 (0 : Int32)
  else
    K16 (0 : Int32)
def mX8_ownWord_16 (n_text : Nat) (v_from : Int32) (v_end : Int32) (a_text : Nat → Int32) (i3 : Nat) (K3 : Int32) : Nat → Nat → Int32 → Int32
  | 0, i16, x5_16 => if x5_16 = 0 then
      K3
    else
      nI i3
  | k16 + 1, i16, x5_16 =>
    if x5_16 = 0 then
      K3
    else
      if (v_from + (nI i16)) < v_end then
        mX8_ownWord_49 i16 i3 (fun zx5_16 => mX8_ownWord_16 n_text v_from v_end a_text i3 K3 k16 (i16 + 1) zx5_16) (mX11_at n_text (v_from + (nI i16)) a_text)
      else
        mX8_ownWord_49 i16 i3 (fun zx5_16 => mX8_ownWord_16 n_text v_from v_end a_text i3 K3 k16 (i16 + 1) zx5_16) (32 : Int32)
def mX8_ownWord_3 (n_text : Nat) (v_from : Int32) (v_end : Int32) (a_text : Nat → Int32)  : Nat → Nat → Int32
  | 0, i3 => ((-1) : Int32)
  | k3 + 1, i3 =>
    mX8_ownWord_16 n_text v_from v_end a_text i3 (mX8_ownWord_3 n_text v_from v_end a_text k3 (i3 + 1)) 6 0 (1 : Int32)
def mX8_ownWord (n_text : Nat) (v_from : Int32) (v_end : Int32) (a_text : Nat → Int32) : Int32 :=
  mX8_ownWord_3 n_text v_from v_end a_text 24 0
def mX8_cutWord_140 (v_from : Int32) (f_tokens : Int32) (a_kinds : Nat → Int32) (a_starts : Nat → Int32) (a_values : Nat → Int32)  (x4_140 : Int32) (x5_140 : Int32) (x6_140 : Int32) (s0_140 : Int32) : Int32 × Int32 × (Nat → Int32) × (Nat → Int32) × (Nat → Int32) :=
  if x6_140 = (-1) then
    xlet (mX8_addToken s0_140 v_from x5_140 f_tokens a_kinds a_starts a_values) (xu fun q10_1 => xu fun q10_2 => xu fun q10_3 => fun q10_4 =>
      (x4_140, q10_1, q10_2, q10_3, q10_4))
  else
    xlet (mX8_addToken s0_140 v_from x6_140 f_tokens a_kinds a_starts a_values) (xu fun q11_1 => xu fun q11_2 => xu fun q11_3 => fun q11_4 =>
      (x4_140, q11_1, q11_2, q11_3, q11_4))
def mX8_cutWord_118 (n_text : Nat) (v_from : Int32) (f_tokens : Int32) (a_kinds : Nat → Int32) (a_starts : Nat → Int32) (a_values : Nat → Int32) (a_text : Nat → Int32)  (x4_118 : Int32) (x5_118 : Int32) : Int32 × Int32 × (Nat → Int32) × (Nat → Int32) × (Nat → Int32) :=
  if (mX8_ownWord n_text v_from x4_118 a_text) = (-1) then
    mX8_cutWord_140 v_from f_tokens a_kinds a_starts a_values x4_118 x5_118 (mX8_ownWord n_text v_from x4_118 a_text) (3 : Int32)
  else
    mX8_cutWord_140 v_from f_tokens a_kinds a_starts a_values x4_118 x5_118 (mX8_ownWord n_text v_from x4_118 a_text) (4 : Int32)
def mX8_cutWord_66 (x4_9 : Int32) (x5_9 : Int32) (K9 : Int32 → Int32 → Int32 × Int32 × (Nat → Int32) × (Nat → Int32) × (Nat → Int32)) (x7_66 : Int32) (s0_66 : Int32) : Int32 × Int32 × (Nat → Int32) × (Nat → Int32) × (Nat → Int32) :=
  if x7_66 = 0 then
    K9 (x4_9 + 0) ((x5_9 * 27) + s0_66)
  else
    K9 (x4_9 + 1) ((x5_9 * 27) + s0_66)
def mX8_cutWord_39 (n_text : Nat) (a_text : Nat → Int32) (x4_9 : Int32) (x5_9 : Int32) (K9 : Int32 → Int32 → Int32 × Int32 × (Nat → Int32) × (Nat → Int32) × (Nat → Int32)) (s0_39 : Int32) : Int32 × Int32 × (Nat → Int32) × (Nat → Int32) × (Nat → Int32) :=
  if s0_39 = 0 then
    mX8_cutWord_66 x4_9 x5_9 K9 s0_39 (0 : Int32)
  else
    mX8_cutWord_66 x4_9 x5_9 K9 s0_39 (((mX11_at n_text x4_9 a_text) - 97) + 1)
def mX8_cutWord_38 (n_text : Nat) (a_text : Nat → Int32) (x4_9 : Int32) (x5_9 : Int32) (K9 : Int32 → Int32 → Int32 × Int32 × (Nat → Int32) × (Nat → Int32) × (Nat → Int32))  : Int32 × Int32 × (Nat → Int32) × (Nat → Int32) × (Nat → Int32) :=
  mX8_cutWord_39 n_text a_text x4_9 x5_9 K9 (0 : Int32)
def mX8_cutWord_9 (n_text : Nat) (v_length : Int32) (v_from : Int32) (f_tokens : Int32) (a_kinds : Nat → Int32) (a_starts : Nat → Int32) (a_values : Nat → Int32) (a_text : Nat → Int32)  : Nat → Nat → Int32 → Int32 → Int32 × Int32 × (Nat → Int32) × (Nat → Int32) × (Nat → Int32)
  | 0, i9, x4_9, x5_9 => if x4_9 < v_length then
      if (mX8_isLetter (mX11_at n_text x4_9 a_text)) = true then
        xlet (mX8_addToken (1 : Int32) v_from x4_9 f_tokens a_kinds a_starts a_values) (xu fun q5_1 => xu fun q5_2 => xu fun q5_3 => fun q5_4 =>
          (v_length, q5_1, q5_2, q5_3, q5_4))
      else
        mX8_cutWord_118 n_text v_from f_tokens a_kinds a_starts a_values a_text x4_9 x5_9
    else
      mX8_cutWord_118 n_text v_from f_tokens a_kinds a_starts a_values a_text x4_9 x5_9
  | k9 + 1, i9, x4_9, x5_9 =>
    if x4_9 < v_length then
      if (mX8_isLetter (mX11_at n_text x4_9 a_text)) = true then
        mX8_cutWord_39 n_text a_text x4_9 x5_9 (fun zx4_9 zx5_9 => mX8_cutWord_9 n_text v_length v_from f_tokens a_kinds a_starts a_values a_text k9 (i9 + 1) zx4_9 zx5_9) (1 : Int32)
      else
        mX8_cutWord_38 n_text a_text x4_9 x5_9 (fun zx4_9 zx5_9 => mX8_cutWord_9 n_text v_length v_from f_tokens a_kinds a_starts a_values a_text k9 (i9 + 1) zx4_9 zx5_9)
    else
      mX8_cutWord_38 n_text a_text x4_9 x5_9 (fun zx4_9 zx5_9 => mX8_cutWord_9 n_text v_length v_from f_tokens a_kinds a_starts a_values a_text k9 (i9 + 1) zx4_9 zx5_9)
def mX8_cutWord (n_text : Nat) (v_length : Int32) (v_from : Int32) (f_tokens : Int32) (a_kinds : Nat → Int32) (a_starts : Nat → Int32) (a_values : Nat → Int32) (a_text : Nat → Int32) : Int32 × Int32 × (Nat → Int32) × (Nat → Int32) × (Nat → Int32) :=
  mX8_cutWord_9 n_text v_length v_from f_tokens a_kinds a_starts a_values a_text 6 0 v_from (0 : Int32)
def mX8_cutNumber_87 (v_from : Int32) (f_tokens : Int32) (a_kinds : Nat → Int32) (a_starts : Nat → Int32) (a_values : Nat → Int32)  (x4_87 : Int32) (x5_87 : Int32) : Int32 × Int32 × (Nat → Int32) × (Nat → Int32) × (Nat → Int32) :=
  xlet (mX8_addToken (2 : Int32) v_from x5_87 f_tokens a_kinds a_starts a_values) (xu fun q6_1 => xu fun q6_2 => xu fun q6_3 => fun q6_4 =>
    (x4_87, q6_1, q6_2, q6_3, q6_4))
def mX8_cutNumber_59 (n_text : Nat) (v_length : Int32) (v_from : Int32) (f_tokens : Int32) (a_kinds : Nat → Int32) (a_starts : Nat → Int32) (a_values : Nat → Int32) (a_text : Nat → Int32)  (x4_59 : Int32) (x5_59 : Int32) : Int32 × Int32 × (Nat → Int32) × (Nat → Int32) × (Nat → Int32) :=
  if x4_59 < v_length then
    if (mX8_isDigit (mX11_at n_text x4_59 a_text)) = true then
      xlet (mX8_addToken (1 : Int32) v_from x4_59 f_tokens a_kinds a_starts a_values) (xu fun q5_1 => xu fun q5_2 => xu fun q5_3 => fun q5_4 =>
        (v_length, q5_1, q5_2, q5_3, q5_4))
    else
      mX8_cutNumber_87 v_from f_tokens a_kinds a_starts a_values x4_59 x5_59
  else
    mX8_cutNumber_87 v_from f_tokens a_kinds a_starts a_values x4_59 x5_59
def mX8_cutNumber_9 (n_text : Nat) (v_length : Int32) (v_from : Int32) (f_tokens : Int32) (a_kinds : Nat → Int32) (a_starts : Nat → Int32) (a_values : Nat → Int32) (a_text : Nat → Int32)  : Nat → Nat → Int32 → Int32 → Int32 × Int32 × (Nat → Int32) × (Nat → Int32) × (Nat → Int32)
  | 0, i9, x4_9, x5_9 => mX8_cutNumber_59 n_text v_length v_from f_tokens a_kinds a_starts a_values a_text x4_9 x5_9
  | k9 + 1, i9, x4_9, x5_9 =>
    if x4_9 < v_length then
      if (mX8_isDigit (mX11_at n_text x4_9 a_text)) = true then
        mX8_cutNumber_9 n_text v_length v_from f_tokens a_kinds a_starts a_values a_text k9 (i9 + 1) (x4_9 + 1) (((x5_9 * 10) + (mX11_at n_text x4_9 a_text)) - 48)
      else
        mX8_cutNumber_59 n_text v_length v_from f_tokens a_kinds a_starts a_values a_text x4_9 x5_9
    else
      mX8_cutNumber_59 n_text v_length v_from f_tokens a_kinds a_starts a_values a_text x4_9 x5_9
def mX8_cutNumber (n_text : Nat) (v_length : Int32) (v_from : Int32) (f_tokens : Int32) (a_kinds : Nat → Int32) (a_starts : Nat → Int32) (a_values : Nat → Int32) (a_text : Nat → Int32) : Int32 × Int32 × (Nat → Int32) × (Nat → Int32) × (Nat → Int32) :=
  mX8_cutNumber_9 n_text v_length v_from f_tokens a_kinds a_starts a_values a_text 4 0 v_from (0 : Int32)
def mX8_cutToken_57 (n_text : Nat) (v_length : Int32) (v_from : Int32) (f_tokens : Int32) (a_kinds : Nat → Int32) (a_starts : Nat → Int32) (a_values : Nat → Int32) (a_text : Nat → Int32)   : Int32 × Int32 × (Nat → Int32) × (Nat → Int32) × (Nat → Int32) :=
  if (mX8_isLetter (mX11_at n_text v_from a_text)) = true then
    xlet (mX8_cutWord n_text v_length v_from f_tokens a_kinds a_starts a_values a_text) (xu fun q7_1 => xu fun q7_2 => xu fun q7_3 => xu fun q7_4 => fun q7_5 =>
      (q7_1, q7_2, q7_3, q7_4, q7_5))
  else
    if (mX8_isDigit (mX11_at n_text v_from a_text)) = true then
      xlet (mX8_cutNumber n_text v_length v_from f_tokens a_kinds a_starts a_values a_text) (xu fun q9_1 => xu fun q9_2 => xu fun q9_3 => xu fun q9_4 => fun q9_5 =>
        (q9_1, q9_2, q9_3, q9_4, q9_5))
    else
      xlet (mX8_addToken (5 : Int32) v_from (mX11_at n_text v_from a_text) f_tokens a_kinds a_starts a_values) (xu fun q10_1 => xu fun q10_2 => xu fun q10_3 => fun q10_4 =>
        (v_from + 1, q10_1, q10_2, q10_3, q10_4))
def mX8_cutToken_48 (v_length : Int32) (v_from : Int32) (f_tokens : Int32) (a_kinds : Nat → Int32) (a_starts : Nat → Int32) (a_values : Nat → Int32)   : Int32 × Int32 × (Nat → Int32) × (Nat → Int32) × (Nat → Int32) :=
  xlet (mX8_addToken (1 : Int32) v_from v_from f_tokens a_kinds a_starts a_values) (xu fun q5_1 => xu fun q5_2 => xu fun q5_3 => fun q5_4 =>
    (v_length, q5_1, q5_2, q5_3, q5_4))
def mX8_cutToken_32 (n_text : Nat) (v_length : Int32) (v_from : Int32) (f_tokens : Int32) (a_kinds : Nat → Int32) (a_starts : Nat → Int32) (a_values : Nat → Int32) (a_text : Nat → Int32)   : Int32 × Int32 × (Nat → Int32) × (Nat → Int32) × (Nat → Int32) :=
  if (mX8_isDigit (mX11_at n_text v_from a_text)) = true then
    if (mX8_isLetter (mX11_at n_text (v_from - 1) a_text)) = true then
      mX8_cutToken_48 v_length v_from f_tokens a_kinds a_starts a_values
    else
      mX8_cutToken_57 n_text v_length v_from f_tokens a_kinds a_starts a_values a_text
  else
    mX8_cutToken_57 n_text v_length v_from f_tokens a_kinds a_starts a_values a_text
def mX8_cutToken (n_text : Nat) (v_length : Int32) (v_from : Int32) (f_tokens : Int32) (a_kinds : Nat → Int32) (a_starts : Nat → Int32) (a_values : Nat → Int32) (a_text : Nat → Int32) : Int32 × Int32 × (Nat → Int32) × (Nat → Int32) × (Nat → Int32) :=
  if (mX8_isLetter (mX11_at n_text v_from a_text)) = true then
    if (mX8_isDigit (mX11_at n_text (v_from - 1) a_text)) = true then
      mX8_cutToken_48 v_length v_from f_tokens a_kinds a_starts a_values
    else
      mX8_cutToken_32 n_text v_length v_from f_tokens a_kinds a_starts a_values a_text
  else
    mX8_cutToken_32 n_text v_length v_from f_tokens a_kinds a_starts a_values a_text
def mX8_cut_10 (n_text : Nat) (v_length : Int32) (a_text : Nat → Int32)  : Nat → Nat → Int32 → Int32 → (Nat → Int32) → (Nat → Int32) → (Nat → Int32) → Int32 × (Nat → Int32) × (Nat → Int32) × (Nat → Int32)
  | 0, i10, x3_10, f_tokens_10, a_kinds_10, a_starts_10, a_values_10 => xlet (mX8_addToken (0 : Int32) v_length (0 : Int32) f_tokens_10 a_kinds_10 a_starts_10 a_values_10) (xu fun q5_1 => xu fun q5_2 => xu fun q5_3 => fun q5_4 =>
      (q5_1, q5_2, q5_3, q5_4))
  | k10 + 1, i10, x3_10, f_tokens_10, a_kinds_10, a_starts_10, a_values_10 =>
    if x3_10 < v_length then
      if (mX8_isBlank (mX11_at n_text x3_10 a_text)) = true then
        mX8_cut_10 n_text v_length a_text k10 (i10 + 1) (x3_10 + 1) f_tokens_10 a_kinds_10 a_starts_10 a_values_10
      else
        xlet (mX8_cutToken n_text v_length x3_10 f_tokens_10 a_kinds_10 a_starts_10 a_values_10 a_text) (xu fun q3_1 => xu fun q3_2 => xu fun q3_3 => xu fun q3_4 => fun q3_5 =>
          mX8_cut_10 n_text v_length a_text k10 (i10 + 1) q3_1 q3_2 q3_3 q3_4 q3_5)
    else
      xlet (mX8_addToken (0 : Int32) v_length (0 : Int32) f_tokens_10 a_kinds_10 a_starts_10 a_values_10) (xu fun q4_1 => xu fun q4_2 => xu fun q4_3 => fun q4_4 =>
        (q4_1, q4_2, q4_3, q4_4))
def mX8_cut (n_text : Nat) (v_length : Int32) (a_kinds : Nat → Int32) (a_starts : Nat → Int32) (a_values : Nat → Int32) (a_text : Nat → Int32) : Int32 × (Nat → Int32) × (Nat → Int32) × (Nat → Int32) :=
  mX8_cut_10 n_text v_length a_text 1601 0 (0 : Int32) (0 : Int32) a_kinds a_starts a_values
