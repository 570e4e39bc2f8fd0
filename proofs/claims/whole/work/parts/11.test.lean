def pg_X11_at : xPg := [(0, .iload_n 1, .null), (1, .ifCond .lt 15, .retAddr 16), (4, .iload_n 1, .null), (5, .aload_n 0, .null), (6, .arraylength, .null), (7, .if_icmp .ge 9, .retAddr 16), (10, .aload_n 0, .null), (11, .iload_n 1, .null), (12, .iaload, .null), (13, .goto 4, .retAddr 17), (16, .iconst (-1), .int (-1)), (17, .ireturn, .null)]
theorem pq_X11_at : xPq RX11 cX11_at tb_X11 pg_X11_at := ⟨tab_X11, xPok_of (by decide +kernel)⟩
theorem cy_X11_at : xCy yX11_at cX11_at 2 (some .int) := ⟨xtb_in (i := 666) (by decide +kernel) rfl, xtb_in (i := 153) (by decide +kernel) rfl, by decide +kernel, by decide +kernel⟩
theorem ss_X11_at : Cond.static yX11_at ∈ xtb := xtb_in (i := 665) (by decide +kernel) rfl
theorem ar_X11_at : xar yX11_at 2 := by unfold xar; decide +kernel
def mcX11_at (n_row : Nat) (a_row : Nat → Int32) : xC := [(1000, .inl (0, n_row, .inl a_row))]
def meX11_at (n_row : Nat) (a_row : Nat → Int32) : Int32 → xRes := fun r => some (some (.int r), mcX11_at n_row a_row)
def mX11_at (n_row : Nat) (v_k : Int32) (a_row : Nat → Int32) : Int32 :=
  if v_k < 0 then
    ((-1) : Int32)
  else
    if v_k < (Int32.ofNat n_row) then
      a_row v_k.toNatClampNeg
    else
      ((-1) : Int32)
set_option maxRecDepth 100000 in
set_option maxHeartbeats 4000000 in
theorem kX11_at (l : Launch) (n_row : Nat) (v_k : Int32) (a_row : Nat → Int32) (hn_row : n_row < 2 ^ 31) : xMet l 0 yX11_at cX11_at 2 (some .int) [.ref 1000, .int v_k] (mcX11_at n_row a_row) (meX11_at n_row a_row (mX11_at n_row v_k a_row)) := by
  refine xMet_of cy_X11_at [some (.ref 1000), some (.int v_k)] rfl (Nat.le_of_ble_eq_true rfl) (fun X K => ?_)
  refine xR_st K pq_X11_at 1 (pc' := 1) (L' := [some (.ref 1000), some (.int v_k)]) (S' := [.int v_k]) (C' := mcX11_at n_row a_row) rfl trivial ?_
  refine xR_i0 (enc := meX11_at n_row a_row) (q1 := 16) (q2 := 4) K pq_X11_at rfl rfl rfl rfl (fun h2 => ?_) (fun h2 => ?_)
  · refine xR_st K pq_X11_at 1 (pc' := 17) (L' := [some (.ref 1000), some (.int v_k)]) (S' := [.int (-1)]) (C' := mcX11_at n_row a_row) rfl trivial ?_
    exact xR_ret K pq_X11_at rfl
  · refine xR_st K pq_X11_at 3 (pc' := 7) (L' := [some (.ref 1000), some (.int v_k)]) (S' := [.int (Int32.ofNat n_row), .int v_k]) (C' := mcX11_at n_row a_row) rfl trivial ?_
    refine xR_i2 (enc := meX11_at n_row a_row) (q1 := 10) (q2 := 16) K pq_X11_at rfl rfl rfl rfl (fun h3 => ?_) (fun h3 => ?_)
    · refine xR_st K pq_X11_at 4 (pc' := 17) (L' := [some (.ref 1000), some (.int v_k)]) (S' := [.int (a_row v_k.toNatClampNeg)]) (C' := mcX11_at n_row a_row) rfl ⟨xin_n h2 h3 (by first | assumption | decide), trivial⟩ ?_
      exact xR_ret K pq_X11_at rfl
    · refine xR_st K pq_X11_at 1 (pc' := 17) (L' := [some (.ref 1000), some (.int v_k)]) (S' := [.int (-1)]) (C' := mcX11_at n_row a_row) rfl trivial ?_
      exact xR_ret K pq_X11_at rfl
def pg_X11_put : xPg := [(0, .iload_n 1, .null), (1, .ifCond .lt 13, .retAddr 14), (4, .iload_n 1, .null), (5, .aload_n 0, .null), (6, .arraylength, .null), (7, .if_icmp .ge 7, .retAddr 14), (10, .aload_n 0, .null), (11, .iload_n 1, .null), (12, .iload_n 2, .null), (13, .iastore, .null), (14, .return_, .null)]
theorem pq_X11_put : xPq RX11 cX11_put tb_X11 pg_X11_put := ⟨tab_X11, xPok_of (by decide +kernel)⟩
theorem cy_X11_put : xCy yX11_put cX11_put 3 none := ⟨xtb_in (i := 669) (by decide +kernel) rfl, xtb_in (i := 153) (by decide +kernel) rfl, by decide +kernel, by decide +kernel⟩
theorem ss_X11_put : Cond.static yX11_put ∈ xtb := xtb_in (i := 668) (by decide +kernel) rfl
theorem ar_X11_put : xar yX11_put 3 := by unfold xar; decide +kernel
def mcX11_put (n_row : Nat) (a_row : Nat → Int32) : xC := [(1000, .inl (0, n_row, .inl a_row))]
def meX11_put (n_row : Nat) (a_row : Nat → Int32) : (Nat → Int32) → xRes := fun r => some (none, mcX11_put n_row r)
def mX11_put (n_row : Nat) (v_k : Int32) (v_value : Int32) (a_row : Nat → Int32) : (Nat → Int32) :=
  if v_k < 0 then
    a_row
  else
    if v_k < (Int32.ofNat n_row) then
      upd a_row v_k.toNatClampNeg v_value
    else
      a_row
set_option maxRecDepth 100000 in
set_option maxHeartbeats 4000000 in
theorem kX11_put (l : Launch) (n_row : Nat) (v_k : Int32) (v_value : Int32) (a_row : Nat → Int32) (hn_row : n_row < 2 ^ 31) : xMet l 0 yX11_put cX11_put 3 none [.ref 1000, .int v_k, .int v_value] (mcX11_put n_row a_row) (meX11_put n_row a_row (mX11_put n_row v_k v_value a_row)) := by
  refine xMet_of cy_X11_put [some (.ref 1000), some (.int v_k), some (.int v_value)] rfl (Nat.le_of_ble_eq_true rfl) (fun X K => ?_)
  refine xR_st K pq_X11_put 1 (pc' := 1) (L' := [some (.ref 1000), some (.int v_k), some (.int v_value)]) (S' := [.int v_k]) (C' := mcX11_put n_row a_row) rfl trivial ?_
  refine xR_i0 (enc := meX11_put n_row a_row) (q1 := 14) (q2 := 4) K pq_X11_put rfl rfl rfl rfl (fun h7 => ?_) (fun h7 => ?_)
  · exact xR_retv K pq_X11_put rfl
  · refine xR_st K pq_X11_put 3 (pc' := 7) (L' := [some (.ref 1000), some (.int v_k), some (.int v_value)]) (S' := [.int (Int32.ofNat n_row), .int v_k]) (C' := mcX11_put n_row a_row) rfl trivial ?_
    refine xR_i2 (enc := meX11_put n_row a_row) (q1 := 10) (q2 := 14) K pq_X11_put rfl rfl rfl rfl (fun h8 => ?_) (fun h8 => ?_)
    · refine xR_st K pq_X11_put 4 (pc' := 14) (L' := [some (.ref 1000), some (.int v_k), some (.int v_value)]) (S' := []) (C' := mcX11_put n_row (upd a_row v_k.toNatClampNeg v_value)) rfl ⟨xin_n h7 h8 (by first | assumption | decide), trivial⟩ ?_
      exact xR_retv K pq_X11_put rfl
    · exact xR_retv K pq_X11_put rfl
def pg_X11_in : xPg := [(0, .iload_n 2, .null), (1, .ifCond .lt 23, .retAddr 24), (4, .iload_n 2, .null), (5, .bipush 40, .int 40), (7, .if_icmp .ge 17, .retAddr 24), (10, .lload_n 0, .null), (11, .iload_n 2, .null), (12, .lushr, .null), (13, .lconst 1, .long 1), (14, .land, .null), (15, .lconst 0, .long 0), (16, .lcmp, .null), (17, .ifCond .eq 7, .retAddr 24), (20, .iconst 1, .int 1), (21, .goto 4, .retAddr 25), (24, .iconst 0, .int 0), (25, .ireturn, .null)]
theorem pq_X11_in : xPq RX11 cX11_in tb_X11 pg_X11_in := ⟨tab_X11, xPok_of (by decide +kernel)⟩
theorem cy_X11_in : xCy yX11_in cX11_in 3 (some .boolean) := ⟨xtb_in (i := 926) (by decide +kernel) rfl, xtb_in (i := 153) (by decide +kernel) rfl, by decide +kernel, by decide +kernel⟩
theorem ss_X11_in : Cond.static yX11_in ∈ xtb := xtb_in (i := 925) (by decide +kernel) rfl
theorem ar_X11_in : xar yX11_in 2 := by unfold xar; decide +kernel
def mcX11_in  : xC := []
def meX11_in  : Bool → xRes := fun r => some (some (.int (xb r)), mcX11_in)
def mX11_in (v_group : Int64) (v_thing : Int32) : Bool :=
  if v_thing < 0 then
    false
  else
    if v_thing < 40 then
      if (((v_group.toUInt64 >>> (v_thing.toInt64.toUInt64 &&& Int64.toUInt64 63)).toInt64) &&& 1) = (0 : Int64) then
        false
      else
        true
    else
      false
set_option maxRecDepth 100000 in
set_option maxHeartbeats 4000000 in
theorem kX11_in (l : Launch) (v_group : Int64) (v_thing : Int32)  : xMet l 0 yX11_in cX11_in 3 (some .boolean) [.long v_group, .int v_thing] (mcX11_in) (meX11_in (mX11_in v_group v_thing)) := by
  refine xMet_of cy_X11_in [some (.long v_group), none, some (.int v_thing)] rfl (Nat.le_of_ble_eq_true rfl) (fun X K => ?_)
  refine xR_st K pq_X11_in 1 (pc' := 1) (L' := [some (.long v_group), none, some (.int v_thing)]) (S' := [.int v_thing]) (C' := mcX11_in) rfl trivial ?_
  refine xR_i0 (enc := meX11_in) (q1 := 24) (q2 := 4) K pq_X11_in rfl rfl rfl rfl (fun h9 => ?_) (fun h9 => ?_)
  · refine xR_st K pq_X11_in 1 (pc' := 25) (L' := [some (.long v_group), none, some (.int v_thing)]) (S' := [.int 0]) (C' := mcX11_in) rfl trivial ?_
    exact xR_retb (b := false) K pq_X11_in rfl
  · refine xR_st K pq_X11_in 2 (pc' := 7) (L' := [some (.long v_group), none, some (.int v_thing)]) (S' := [.int 40, .int v_thing]) (C' := mcX11_in) rfl trivial ?_
    refine xR_i2 (enc := meX11_in) (q1 := 10) (q2 := 24) K pq_X11_in rfl rfl rfl rfl (fun h10 => ?_) (fun h10 => ?_)
    · refine xR_st K pq_X11_in 7 (pc' := 17) (L' := [some (.long v_group), none, some (.int v_thing)]) (S' := [.int (lg_cmp (((v_group.toUInt64 >>> (v_thing.toInt64.toUInt64 &&& Int64.toUInt64 63)).toInt64) &&& 1) (0 : Int64))]) (C' := mcX11_in) rfl trivial ?_
      refine xR_il (enc := meX11_in) (q1 := 24) (q2 := 20) K pq_X11_in rfl rfl rfl rfl (fun h11 => ?_) (fun h11 => ?_)
      · refine xR_st K pq_X11_in 1 (pc' := 25) (L' := [some (.long v_group), none, some (.int v_thing)]) (S' := [.int 0]) (C' := mcX11_in) rfl trivial ?_
        exact xR_retb (b := false) K pq_X11_in rfl
      · refine xR_st K pq_X11_in 2 (pc' := 25) (L' := [some (.long v_group), none, some (.int v_thing)]) (S' := [.int 1]) (C' := mcX11_in) rfl trivial ?_
        exact xR_retb (b := true) K pq_X11_in rfl
    · refine xR_st K pq_X11_in 1 (pc' := 25) (L' := [some (.long v_group), none, some (.int v_thing)]) (S' := [.int 0]) (C' := mcX11_in) rfl trivial ?_
      exact xR_retb (b := false) K pq_X11_in rfl
def pg_X11_bit : xPg := [(0, .iload_n 0, .null), (1, .ifCond .lt 15, .retAddr 16), (4, .iload_n 0, .null), (5, .bipush 40, .int 40), (7, .if_icmp .ge 9, .retAddr 16), (10, .lconst 1, .long 1), (11, .iload_n 0, .null), (12, .lshl, .null), (13, .goto 4, .retAddr 17), (16, .lconst 0, .long 0), (17, .lreturn, .null)]
theorem pq_X11_bit : xPq RX11 cX11_bit tb_X11 pg_X11_bit := ⟨tab_X11, xPok_of (by decide +kernel)⟩
theorem cy_X11_bit : xCy yX11_bit cX11_bit 1 (some .long) := ⟨xtb_in (i := 907) (by decide +kernel) rfl, xtb_in (i := 153) (by decide +kernel) rfl, by decide +kernel, by decide +kernel⟩
theorem ss_X11_bit : Cond.static yX11_bit ∈ xtb := xtb_in (i := 906) (by decide +kernel) rfl
theorem ar_X11_bit : xar yX11_bit 1 := by unfold xar; decide +kernel
def mcX11_bit  : xC := []
def meX11_bit  : Int64 → xRes := fun r => some (some (.long r), mcX11_bit)
def mX11_bit (v_thing : Int32) : Int64 :=
  if v_thing < 0 then
    (0 : Int64)
  else
    if v_thing < 40 then
      1 <<< (v_thing.toInt64 &&& 63)
    else
      (0 : Int64)
set_option maxRecDepth 100000 in
set_option maxHeartbeats 4000000 in
theorem kX11_bit (l : Launch) (v_thing : Int32)  : xMet l 0 yX11_bit cX11_bit 1 (some .long) [.int v_thing] (mcX11_bit) (meX11_bit (mX11_bit v_thing)) := by
  refine xMet_of cy_X11_bit [some (.int v_thing)] rfl (Nat.le_of_ble_eq_true rfl) (fun X K => ?_)
  refine xR_st K pq_X11_bit 1 (pc' := 1) (L' := [some (.int v_thing)]) (S' := [.int v_thing]) (C' := mcX11_bit) rfl trivial ?_
  refine xR_i0 (enc := meX11_bit) (q1 := 16) (q2 := 4) K pq_X11_bit rfl rfl rfl rfl (fun h12 => ?_) (fun h12 => ?_)
  · refine xR_st K pq_X11_bit 1 (pc' := 17) (L' := [some (.int v_thing)]) (S' := [.long 0]) (C' := mcX11_bit) rfl trivial ?_
    exact xR_retl K pq_X11_bit rfl
  · refine xR_st K pq_X11_bit 2 (pc' := 7) (L' := [some (.int v_thing)]) (S' := [.int 40, .int v_thing]) (C' := mcX11_bit) rfl trivial ?_
    refine xR_i2 (enc := meX11_bit) (q1 := 10) (q2 := 16) K pq_X11_bit rfl rfl rfl rfl (fun h13 => ?_) (fun h13 => ?_)
    · refine xR_st K pq_X11_bit 4 (pc' := 17) (L' := [some (.int v_thing)]) (S' := [.long (1 <<< (v_thing.toInt64 &&& 63))]) (C' := mcX11_bit) rfl trivial ?_
      exact xR_retl K pq_X11_bit rfl
    · refine xR_st K pq_X11_bit 1 (pc' := 17) (L' := [some (.int v_thing)]) (S' := [.long 0]) (C' := mcX11_bit) rfl trivial ?_
      exact xR_retl K pq_X11_bit rfl
def pg_X11_maskAt : xPg := [(0, .iload_n 1, .null), (1, .ifCond .lt 15, .retAddr 16), (4, .iload_n 1, .null), (5, .aload_n 0, .null), (6, .arraylength, .null), (7, .if_icmp .ge 9, .retAddr 16), (10, .aload_n 0, .null), (11, .iload_n 1, .null), (12, .laload, .null), (13, .goto 4, .retAddr 17), (16, .lconst 0, .long 0), (17, .lreturn, .null)]
theorem pq_X11_maskAt : xPq RX11 cX11_maskAt tb_X11 pg_X11_maskAt := ⟨tab_X11, xPok_of (by decide +kernel)⟩
theorem cy_X11_maskAt : xCy yX11_maskAt cX11_maskAt 2 (some .long) := ⟨xtb_in (i := 929) (by decide +kernel) rfl, xtb_in (i := 153) (by decide +kernel) rfl, by decide +kernel, by decide +kernel⟩
theorem ss_X11_maskAt : Cond.static yX11_maskAt ∈ xtb := xtb_in (i := 928) (by decide +kernel) rfl
theorem ar_X11_maskAt : xar yX11_maskAt 2 := by unfold xar; decide +kernel
def mcX11_maskAt (n_row : Nat) (a_row : Nat → Int64) : xC := [(1000, .inl (1, n_row, .inr (.inl a_row)))]
def meX11_maskAt (n_row : Nat) (a_row : Nat → Int64) : Int64 → xRes := fun r => some (some (.long r), mcX11_maskAt n_row a_row)
def mX11_maskAt (n_row : Nat) (v_k : Int32) (a_row : Nat → Int64) : Int64 :=
  if v_k < 0 then
    (0 : Int64)
  else
    if v_k < (Int32.ofNat n_row) then
      a_row v_k.toNatClampNeg
    else
      (0 : Int64)
set_option maxRecDepth 100000 in
set_option maxHeartbeats 4000000 in
theorem kX11_maskAt (l : Launch) (n_row : Nat) (v_k : Int32) (a_row : Nat → Int64) (hn_row : n_row < 2 ^ 31) : xMet l 0 yX11_maskAt cX11_maskAt 2 (some .long) [.ref 1000, .int v_k] (mcX11_maskAt n_row a_row) (meX11_maskAt n_row a_row (mX11_maskAt n_row v_k a_row)) := by
  refine xMet_of cy_X11_maskAt [some (.ref 1000), some (.int v_k)] rfl (Nat.le_of_ble_eq_true rfl) (fun X K => ?_)
  refine xR_st K pq_X11_maskAt 1 (pc' := 1) (L' := [some (.ref 1000), some (.int v_k)]) (S' := [.int v_k]) (C' := mcX11_maskAt n_row a_row) rfl trivial ?_
  refine xR_i0 (enc := meX11_maskAt n_row a_row) (q1 := 16) (q2 := 4) K pq_X11_maskAt rfl rfl rfl rfl (fun h15 => ?_) (fun h15 => ?_)
  · refine xR_st K pq_X11_maskAt 1 (pc' := 17) (L' := [some (.ref 1000), some (.int v_k)]) (S' := [.long 0]) (C' := mcX11_maskAt n_row a_row) rfl trivial ?_
    exact xR_retl K pq_X11_maskAt rfl
  · refine xR_st K pq_X11_maskAt 3 (pc' := 7) (L' := [some (.ref 1000), some (.int v_k)]) (S' := [.int (Int32.ofNat n_row), .int v_k]) (C' := mcX11_maskAt n_row a_row) rfl trivial ?_
    refine xR_i2 (enc := meX11_maskAt n_row a_row) (q1 := 10) (q2 := 16) K pq_X11_maskAt rfl rfl rfl rfl (fun h16 => ?_) (fun h16 => ?_)
    · refine xR_st K pq_X11_maskAt 4 (pc' := 17) (L' := [some (.ref 1000), some (.int v_k)]) (S' := [.long (a_row v_k.toNatClampNeg)]) (C' := mcX11_maskAt n_row a_row) rfl ⟨xin_n h15 h16 (by first | assumption | decide), trivial⟩ ?_
      exact xR_retl K pq_X11_maskAt rfl
    · refine xR_st K pq_X11_maskAt 1 (pc' := 17) (L' := [some (.ref 1000), some (.int v_k)]) (S' := [.long 0]) (C' := mcX11_maskAt n_row a_row) rfl trivial ?_
      exact xR_retl K pq_X11_maskAt rfl
def pg_X11_putMask : xPg := [(0, .iload_n 1, .null), (1, .ifCond .lt 13, .retAddr 14), (4, .iload_n 1, .null), (5, .aload_n 0, .null), (6, .arraylength, .null), (7, .if_icmp .ge 7, .retAddr 14), (10, .aload_n 0, .null), (11, .iload_n 1, .null), (12, .lload_n 2, .null), (13, .lastore, .null), (14, .return_, .null)]
theorem pq_X11_putMask : xPq RX11 cX11_putMask tb_X11 pg_X11_putMask := ⟨tab_X11, xPok_of (by decide +kernel)⟩
theorem cy_X11_putMask : xCy yX11_putMask cX11_putMask 4 none := ⟨xtb_in (i := 933) (by decide +kernel) rfl, xtb_in (i := 153) (by decide +kernel) rfl, by decide +kernel, by decide +kernel⟩
theorem ss_X11_putMask : Cond.static yX11_putMask ∈ xtb := xtb_in (i := 932) (by decide +kernel) rfl
theorem ar_X11_putMask : xar yX11_putMask 3 := by unfold xar; decide +kernel
def mcX11_putMask (n_row : Nat) (a_row : Nat → Int64) : xC := [(1000, .inl (1, n_row, .inr (.inl a_row)))]
def meX11_putMask (n_row : Nat) (a_row : Nat → Int64) : (Nat → Int64) → xRes := fun r => some (none, mcX11_putMask n_row r)
def mX11_putMask (n_row : Nat) (v_k : Int32) (v_value : Int64) (a_row : Nat → Int64) : (Nat → Int64) :=
  if v_k < 0 then
    a_row
  else
    if v_k < (Int32.ofNat n_row) then
      vp_updL a_row v_k.toNatClampNeg v_value
    else
      a_row
set_option maxRecDepth 100000 in
set_option maxHeartbeats 4000000 in
theorem kX11_putMask (l : Launch) (n_row : Nat) (v_k : Int32) (v_value : Int64) (a_row : Nat → Int64) (hn_row : n_row < 2 ^ 31) : xMet l 0 yX11_putMask cX11_putMask 4 none [.ref 1000, .int v_k, .long v_value] (mcX11_putMask n_row a_row) (meX11_putMask n_row a_row (mX11_putMask n_row v_k v_value a_row)) := by
  refine xMet_of cy_X11_putMask [some (.ref 1000), some (.int v_k), some (.long v_value), none] rfl (Nat.le_of_ble_eq_true rfl) (fun X K => ?_)
  refine xR_st K pq_X11_putMask 1 (pc' := 1) (L' := [some (.ref 1000), some (.int v_k), some (.long v_value), none]) (S' := [.int v_k]) (C' := mcX11_putMask n_row a_row) rfl trivial ?_
  refine xR_i0 (enc := meX11_putMask n_row a_row) (q1 := 14) (q2 := 4) K pq_X11_putMask rfl rfl rfl rfl (fun h20 => ?_) (fun h20 => ?_)
  · exact xR_retv K pq_X11_putMask rfl
  · refine xR_st K pq_X11_putMask 3 (pc' := 7) (L' := [some (.ref 1000), some (.int v_k), some (.long v_value), none]) (S' := [.int (Int32.ofNat n_row), .int v_k]) (C' := mcX11_putMask n_row a_row) rfl trivial ?_
    refine xR_i2 (enc := meX11_putMask n_row a_row) (q1 := 10) (q2 := 14) K pq_X11_putMask rfl rfl rfl rfl (fun h21 => ?_) (fun h21 => ?_)
    · refine xR_st K pq_X11_putMask 4 (pc' := 14) (L' := [some (.ref 1000), some (.int v_k), some (.long v_value), none]) (S' := []) (C' := mcX11_putMask n_row (vp_updL a_row v_k.toNatClampNeg v_value)) rfl ⟨xin_n h20 h21 (by first | assumption | decide), trivial⟩ ?_
      exact xR_retv K pq_X11_putMask rfl
    · exact xR_retv K pq_X11_putMask rfl
