def pg_J13_bitCount_95d88 : xPg := [(0, .lload_n 0, .null), (1, .lload_n 0, .null), (2, .iconst 1, .int 1), (3, .lushr, .null), (4, .ldc2_w 314, .long 6148914691236517205), (7, .land, .null), (8, .lsub, .null), (9, .lstore_n 0, .null), (10, .lload_n 0, .null), (11, .ldc2_w 316, .long 3689348814741910323), (14, .land, .null), (15, .lload_n 0, .null), (16, .iconst 2, .int 2), (17, .lushr, .null), (18, .ldc2_w 316, .long 3689348814741910323), (21, .land, .null), (22, .ladd, .null), (23, .lstore_n 0, .null), (24, .lload_n 0, .null), (25, .lload_n 0, .null), (26, .iconst 4, .int 4), (27, .lushr, .null), (28, .ladd, .null), (29, .ldc2_w 318, .long 1085102592571150095), (32, .land, .null), (33, .lstore_n 0, .null), (34, .lload_n 0, .null), (35, .lload_n 0, .null), (36, .bipush 8, .int 8), (38, .lushr, .null), (39, .ladd, .null), (40, .lstore_n 0, .null), (41, .lload_n 0, .null), (42, .lload_n 0, .null), (43, .bipush 16, .int 16), (45, .lushr, .null), (46, .ladd, .null), (47, .lstore_n 0, .null), (48, .lload_n 0, .null), (49, .lload_n 0, .null), (50, .bipush 32, .int 32), (52, .lushr, .null), (53, .ladd, .null), (54, .lstore_n 0, .null), (55, .lload_n 0, .null), (56, .l2i, .null), (57, .bipush 127, .int 127), (59, .iand, .null), (60, .ireturn, .null)]
theorem pq_J13_bitCount_95d88 : xPq RJ13 cJ13_bitCount_95d88 tb_J13 pg_J13_bitCount_95d88 := ⟨tab_J13, xPok_of (by decide +kernel)⟩
theorem cy_J13_bitCount_95d88 : xCy yJ13_bitCount_95d88 cJ13_bitCount_95d88 2 (some .int) := ⟨xtb_in (i := 956) (by decide +kernel) rfl, xtb_in (i := 171) (by decide +kernel) rfl, by decide +kernel, by decide +kernel⟩
theorem ss_J13_bitCount_95d88 : Cond.static yJ13_bitCount_95d88 ∈ xtb := xtb_in (i := 955) (by decide +kernel) rfl
theorem ar_J13_bitCount_95d88 : xar yJ13_bitCount_95d88 1 := by unfold xar; decide +kernel
def mcJ13_bitCount_95d88  : xC := []
def meJ13_bitCount_95d88  : Int32 → xRes := fun r => some (some (.int r), mcJ13_bitCount_95d88)
def mJ13_bitCount_95d88 (v_x : Int64) : Int32 :=
  (((((((((v_x - (((v_x.toUInt64 >>> ((1 : Int32).toInt64.toUInt64 &&& Int64.toUInt64 63)).toInt64) &&& 6148914691236517205)) &&& 3689348814741910323) + ((((v_x - (((v_x.toUInt64 >>> ((1 : Int32).toInt64.toUInt64 &&& Int64.toUInt64 63)).toInt64) &&& 6148914691236517205)).toUInt64 >>> ((2 : Int32).toInt64.toUInt64 &&& Int64.toUInt64 63)).toInt64) &&& 3689348814741910323)) + (((((v_x - (((v_x.toUInt64 >>> ((1 : Int32).toInt64.toUInt64 &&& Int64.toUInt64 63)).toInt64) &&& 6148914691236517205)) &&& 3689348814741910323) + ((((v_x - (((v_x.toUInt64 >>> ((1 : Int32).toInt64.toUInt64 &&& Int64.toUInt64 63)).toInt64) &&& 6148914691236517205)).toUInt64 >>> ((2 : Int32).toInt64.toUInt64 &&& Int64.toUInt64 63)).toInt64) &&& 3689348814741910323)).toUInt64 >>> ((4 : Int32).toInt64.toUInt64 &&& Int64.toUInt64 63)).toInt64)) &&& 1085102592571150095) + (((((((v_x - (((v_x.toUInt64 >>> ((1 : Int32).toInt64.toUInt64 &&& Int64.toUInt64 63)).toInt64) &&& 6148914691236517205)) &&& 3689348814741910323) + ((((v_x - (((v_x.toUInt64 >>> ((1 : Int32).toInt64.toUInt64 &&& Int64.toUInt64 63)).toInt64) &&& 6148914691236517205)).toUInt64 >>> ((2 : Int32).toInt64.toUInt64 &&& Int64.toUInt64 63)).toInt64) &&& 3689348814741910323)) + (((((v_x - (((v_x.toUInt64 >>> ((1 : Int32).toInt64.toUInt64 &&& Int64.toUInt64 63)).toInt64) &&& 6148914691236517205)) &&& 3689348814741910323) + ((((v_x - (((v_x.toUInt64 >>> ((1 : Int32).toInt64.toUInt64 &&& Int64.toUInt64 63)).toInt64) &&& 6148914691236517205)).toUInt64 >>> ((2 : Int32).toInt64.toUInt64 &&& Int64.toUInt64 63)).toInt64) &&& 3689348814741910323)).toUInt64 >>> ((4 : Int32).toInt64.toUInt64 &&& Int64.toUInt64 63)).toInt64)) &&& 1085102592571150095).toUInt64 >>> ((8 : Int32).toInt64.toUInt64 &&& Int64.toUInt64 63)).toInt64)) + ((((((((v_x - (((v_x.toUInt64 >>> ((1 : Int32).toInt64.toUInt64 &&& Int64.toUInt64 63)).toInt64) &&& 6148914691236517205)) &&& 3689348814741910323) + ((((v_x - (((v_x.toUInt64 >>> ((1 : Int32).toInt64.toUInt64 &&& Int64.toUInt64 63)).toInt64) &&& 6148914691236517205)).toUInt64 >>> ((2 : Int32).toInt64.toUInt64 &&& Int64.toUInt64 63)).toInt64) &&& 3689348814741910323)) + (((((v_x - (((v_x.toUInt64 >>> ((1 : Int32).toInt64.toUInt64 &&& Int64.toUInt64 63)).toInt64) &&& 6148914691236517205)) &&& 3689348814741910323) + ((((v_x - (((v_x.toUInt64 >>> ((1 : Int32).toInt64.toUInt64 &&& Int64.toUInt64 63)).toInt64) &&& 6148914691236517205)).toUInt64 >>> ((2 : Int32).toInt64.toUInt64 &&& Int64.toUInt64 63)).toInt64) &&& 3689348814741910323)).toUInt64 >>> ((4 : Int32).toInt64.toUInt64 &&& Int64.toUInt64 63)).toInt64)) &&& 1085102592571150095) + (((((((v_x - (((v_x.toUInt64 >>> ((1 : Int32).toInt64.toUInt64 &&& Int64.toUInt64 63)).toInt64) &&& 6148914691236517205)) &&& 3689348814741910323) + ((((v_x - (((v_x.toUInt64 >>> ((1 : Int32).toInt64.toUInt64 &&& Int64.toUInt64 63)).toInt64) &&& 6148914691236517205)).toUInt64 >>> ((2 : Int32).toInt64.toUInt64 &&& Int64.toUInt64 63)).toInt64) &&& 3689348814741910323)) + (((((v_x - (((v_x.toUInt64 >>> ((1 : Int32).toInt64.toUInt64 &&& Int64.toUInt64 63)).toInt64) &&& 6148914691236517205)) &&& 3689348814741910323) + ((((v_x - (((v_x.toUInt64 >>> ((1 : Int32).toInt64.toUInt64 &&& Int64.toUInt64 63)).toInt64) &&& 6148914691236517205)).toUInt64 >>> ((2 : Int32).toInt64.toUInt64 &&& Int64.toUInt64 63)).toInt64) &&& 3689348814741910323)).toUInt64 >>> ((4 : Int32).toInt64.toUInt64 &&& Int64.toUInt64 63)).toInt64)) &&& 1085102592571150095).toUInt64 >>> ((8 : Int32).toInt64.toUInt64 &&& Int64.toUInt64 63)).toInt64)).toUInt64 >>> ((16 : Int32).toInt64.toUInt64 &&& Int64.toUInt64 63)).toInt64)) + (((((((((v_x - (((v_x.toUInt64 >>> ((1 : Int32).toInt64.toUInt64 &&& Int64.toUInt64 63)).toInt64) &&& 6148914691236517205)) &&& 3689348814741910323) + ((((v_x - (((v_x.toUInt64 >>> ((1 : Int32).toInt64.toUInt64 &&& Int64.toUInt64 63)).toInt64) &&& 6148914691236517205)).toUInt64 >>> ((2 : Int32).toInt64.toUInt64 &&& Int64.toUInt64 63)).toInt64) &&& 3689348814741910323)) + (((((v_x - (((v_x.toUInt64 >>> ((1 : Int32).toInt64.toUInt64 &&& Int64.toUInt64 63)).toInt64) &&& 6148914691236517205)) &&& 3689348814741910323) + ((((v_x - (((v_x.toUInt64 >>> ((1 : Int32).toInt64.toUInt64 &&& Int64.toUInt64 63)).toInt64) &&& 6148914691236517205)).toUInt64 >>> ((2 : Int32).toInt64.toUInt64 &&& Int64.toUInt64 63)).toInt64) &&& 3689348814741910323)).toUInt64 >>> ((4 : Int32).toInt64.toUInt64 &&& Int64.toUInt64 63)).toInt64)) &&& 1085102592571150095) + (((((((v_x - (((v_x.toUInt64 >>> ((1 : Int32).toInt64.toUInt64 &&& Int64.toUInt64 63)).toInt64) &&& 6148914691236517205)) &&& 3689348814741910323) + ((((v_x - (((v_x.toUInt64 >>> ((1 : Int32).toInt64.toUInt64 &&& Int64.toUInt64 63)).toInt64) &&& 6148914691236517205)).toUInt64 >>> ((2 : Int32).toInt64.toUInt64 &&& Int64.toUInt64 63)).toInt64) &&& 3689348814741910323)) + (((((v_x - (((v_x.toUInt64 >>> ((1 : Int32).toInt64.toUInt64 &&& Int64.toUInt64 63)).toInt64) &&& 6148914691236517205)) &&& 3689348814741910323) + ((((v_x - (((v_x.toUInt64 >>> ((1 : Int32).toInt64.toUInt64 &&& Int64.toUInt64 63)).toInt64) &&& 6148914691236517205)).toUInt64 >>> ((2 : Int32).toInt64.toUInt64 &&& Int64.toUInt64 63)).toInt64) &&& 3689348814741910323)).toUInt64 >>> ((4 : Int32).toInt64.toUInt64 &&& Int64.toUInt64 63)).toInt64)) &&& 1085102592571150095).toUInt64 >>> ((8 : Int32).toInt64.toUInt64 &&& Int64.toUInt64 63)).toInt64)) + ((((((((v_x - (((v_x.toUInt64 >>> ((1 : Int32).toInt64.toUInt64 &&& Int64.toUInt64 63)).toInt64) &&& 6148914691236517205)) &&& 3689348814741910323) + ((((v_x - (((v_x.toUInt64 >>> ((1 : Int32).toInt64.toUInt64 &&& Int64.toUInt64 63)).toInt64) &&& 6148914691236517205)).toUInt64 >>> ((2 : Int32).toInt64.toUInt64 &&& Int64.toUInt64 63)).toInt64) &&& 3689348814741910323)) + (((((v_x - (((v_x.toUInt64 >>> ((1 : Int32).toInt64.toUInt64 &&& Int64.toUInt64 63)).toInt64) &&& 6148914691236517205)) &&& 3689348814741910323) + ((((v_x - (((v_x.toUInt64 >>> ((1 : Int32).toInt64.toUInt64 &&& Int64.toUInt64 63)).toInt64) &&& 6148914691236517205)).toUInt64 >>> ((2 : Int32).toInt64.toUInt64 &&& Int64.toUInt64 63)).toInt64) &&& 3689348814741910323)).toUInt64 >>> ((4 : Int32).toInt64.toUInt64 &&& Int64.toUInt64 63)).toInt64)) &&& 1085102592571150095) + (((((((v_x - (((v_x.toUInt64 >>> ((1 : Int32).toInt64.toUInt64 &&& Int64.toUInt64 63)).toInt64) &&& 6148914691236517205)) &&& 3689348814741910323) + ((((v_x - (((v_x.toUInt64 >>> ((1 : Int32).toInt64.toUInt64 &&& Int64.toUInt64 63)).toInt64) &&& 6148914691236517205)).toUInt64 >>> ((2 : Int32).toInt64.toUInt64 &&& Int64.toUInt64 63)).toInt64) &&& 3689348814741910323)) + (((((v_x - (((v_x.toUInt64 >>> ((1 : Int32).toInt64.toUInt64 &&& Int64.toUInt64 63)).toInt64) &&& 6148914691236517205)) &&& 3689348814741910323) + ((((v_x - (((v_x.toUInt64 >>> ((1 : Int32).toInt64.toUInt64 &&& Int64.toUInt64 63)).toInt64) &&& 6148914691236517205)).toUInt64 >>> ((2 : Int32).toInt64.toUInt64 &&& Int64.toUInt64 63)).toInt64) &&& 3689348814741910323)).toUInt64 >>> ((4 : Int32).toInt64.toUInt64 &&& Int64.toUInt64 63)).toInt64)) &&& 1085102592571150095).toUInt64 >>> ((8 : Int32).toInt64.toUInt64 &&& Int64.toUInt64 63)).toInt64)).toUInt64 >>> ((16 : Int32).toInt64.toUInt64 &&& Int64.toUInt64 63)).toInt64)).toUInt64 >>> ((32 : Int32).toInt64.toUInt64 &&& Int64.toUInt64 63)).toInt64)).toInt32) &&& 127
set_option maxRecDepth 100000 in
set_option maxHeartbeats 1500000 in
theorem kJ13_bitCount_95d88 (l : Launch) (v_x : Int64)  : xMet l 0 yJ13_bitCount_95d88 cJ13_bitCount_95d88 2 (some .int) [.long v_x] (mcJ13_bitCount_95d88) (meJ13_bitCount_95d88 (mJ13_bitCount_95d88 v_x)) := by
  refine xMet_of cy_J13_bitCount_95d88 [some (.long v_x), none] rfl (Nat.le_of_ble_eq_true rfl) (fun X K => ?_)
  refine xR_st K pq_J13_bitCount_95d88 48 (pc' := 60) (L' := [some (.long ((((((((v_x - (((v_x.toUInt64 >>> ((1 : Int32).toInt64.toUInt64 &&& Int64.toUInt64 63)).toInt64) &&& 6148914691236517205)) &&& 3689348814741910323) + ((((v_x - (((v_x.toUInt64 >>> ((1 : Int32).toInt64.toUInt64 &&& Int64.toUInt64 63)).toInt64) &&& 6148914691236517205)).toUInt64 >>> ((2 : Int32).toInt64.toUInt64 &&& Int64.toUInt64 63)).toInt64) &&& 3689348814741910323)) + (((((v_x - (((v_x.toUInt64 >>> ((1 : Int32).toInt64.toUInt64 &&& Int64.toUInt64 63)).toInt64) &&& 6148914691236517205)) &&& 3689348814741910323) + ((((v_x - (((v_x.toUInt64 >>> ((1 : Int32).toInt64.toUInt64 &&& Int64.toUInt64 63)).toInt64) &&& 6148914691236517205)).toUInt64 >>> ((2 : Int32).toInt64.toUInt64 &&& Int64.toUInt64 63)).toInt64) &&& 3689348814741910323)).toUInt64 >>> ((4 : Int32).toInt64.toUInt64 &&& Int64.toUInt64 63)).toInt64)) &&& 1085102592571150095) + (((((((v_x - (((v_x.toUInt64 >>> ((1 : Int32).toInt64.toUInt64 &&& Int64.toUInt64 63)).toInt64) &&& 6148914691236517205)) &&& 3689348814741910323) + ((((v_x - (((v_x.toUInt64 >>> ((1 : Int32).toInt64.toUInt64 &&& Int64.toUInt64 63)).toInt64) &&& 6148914691236517205)).toUInt64 >>> ((2 : Int32).toInt64.toUInt64 &&& Int64.toUInt64 63)).toInt64) &&& 3689348814741910323)) + (((((v_x - (((v_x.toUInt64 >>> ((1 : Int32).toInt64.toUInt64 &&& Int64.toUInt64 63)).toInt64) &&& 6148914691236517205)) &&& 3689348814741910323) + ((((v_x - (((v_x.toUInt64 >>> ((1 : Int32).toInt64.toUInt64 &&& Int64.toUInt64 63)).toInt64) &&& 6148914691236517205)).toUInt64 >>> ((2 : Int32).toInt64.toUInt64 &&& Int64.toUInt64 63)).toInt64) &&& 3689348814741910323)).toUInt64 >>> ((4 : Int32).toInt64.toUInt64 &&& Int64.toUInt64 63)).toInt64)) &&& 1085102592571150095).toUInt64 >>> ((8 : Int32).toInt64.toUInt64 &&& Int64.toUInt64 63)).toInt64)) + ((((((((v_x - (((v_x.toUInt64 >>> ((1 : Int32).toInt64.toUInt64 &&& Int64.toUInt64 63)).toInt64) &&& 6148914691236517205)) &&& 3689348814741910323) + ((((v_x - (((v_x.toUInt64 >>> ((1 : Int32).toInt64.toUInt64 &&& Int64.toUInt64 63)).toInt64) &&& 6148914691236517205)).toUInt64 >>> ((2 : Int32).toInt64.toUInt64 &&& Int64.toUInt64 63)).toInt64) &&& 3689348814741910323)) + (((((v_x - (((v_x.toUInt64 >>> ((1 : Int32).toInt64.toUInt64 &&& Int64.toUInt64 63)).toInt64) &&& 6148914691236517205)) &&& 3689348814741910323) + ((((v_x - (((v_x.toUInt64 >>> ((1 : Int32).toInt64.toUInt64 &&& Int64.toUInt64 63)).toInt64) &&& 6148914691236517205)).toUInt64 >>> ((2 : Int32).toInt64.toUInt64 &&& Int64.toUInt64 63)).toInt64) &&& 3689348814741910323)).toUInt64 >>> ((4 : Int32).toInt64.toUInt64 &&& Int64.toUInt64 63)).toInt64)) &&& 1085102592571150095) + (((((((v_x - (((v_x.toUInt64 >>> ((1 : Int32).toInt64.toUInt64 &&& Int64.toUInt64 63)).toInt64) &&& 6148914691236517205)) &&& 3689348814741910323) + ((((v_x - (((v_x.toUInt64 >>> ((1 : Int32).toInt64.toUInt64 &&& Int64.toUInt64 63)).toInt64) &&& 6148914691236517205)).toUInt64 >>> ((2 : Int32).toInt64.toUInt64 &&& Int64.toUInt64 63)).toInt64) &&& 3689348814741910323)) + (((((v_x - (((v_x.toUInt64 >>> ((1 : Int32).toInt64.toUInt64 &&& Int64.toUInt64 63)).toInt64) &&& 6148914691236517205)) &&& 3689348814741910323) + ((((v_x - (((v_x.toUInt64 >>> ((1 : Int32).toInt64.toUInt64 &&& Int64.toUInt64 63)).toInt64) &&& 6148914691236517205)).toUInt64 >>> ((2 : Int32).toInt64.toUInt64 &&& Int64.toUInt64 63)).toInt64) &&& 3689348814741910323)).toUInt64 >>> ((4 : Int32).toInt64.toUInt64 &&& Int64.toUInt64 63)).toInt64)) &&& 1085102592571150095).toUInt64 >>> ((8 : Int32).toInt64.toUInt64 &&& Int64.toUInt64 63)).toInt64)).toUInt64 >>> ((16 : Int32).toInt64.toUInt64 &&& Int64.toUInt64 63)).toInt64)) + (((((((((v_x - (((v_x.toUInt64 >>> ((1 : Int32).toInt64.toUInt64 &&& Int64.toUInt64 63)).toInt64) &&& 6148914691236517205)) &&& 3689348814741910323) + ((((v_x - (((v_x.toUInt64 >>> ((1 : Int32).toInt64.toUInt64 &&& Int64.toUInt64 63)).toInt64) &&& 6148914691236517205)).toUInt64 >>> ((2 : Int32).toInt64.toUInt64 &&& Int64.toUInt64 63)).toInt64) &&& 3689348814741910323)) + (((((v_x - (((v_x.toUInt64 >>> ((1 : Int32).toInt64.toUInt64 &&& Int64.toUInt64 63)).toInt64) &&& 6148914691236517205)) &&& 3689348814741910323) + ((((v_x - (((v_x.toUInt64 >>> ((1 : Int32).toInt64.toUInt64 &&& Int64.toUInt64 63)).toInt64) &&& 6148914691236517205)).toUInt64 >>> ((2 : Int32).toInt64.toUInt64 &&& Int64.toUInt64 63)).toInt64) &&& 3689348814741910323)).toUInt64 >>> ((4 : Int32).toInt64.toUInt64 &&& Int64.toUInt64 63)).toInt64)) &&& 1085102592571150095) + (((((((v_x - (((v_x.toUInt64 >>> ((1 : Int32).toInt64.toUInt64 &&& Int64.toUInt64 63)).toInt64) &&& 6148914691236517205)) &&& 3689348814741910323) + ((((v_x - (((v_x.toUInt64 >>> ((1 : Int32).toInt64.toUInt64 &&& Int64.toUInt64 63)).toInt64) &&& 6148914691236517205)).toUInt64 >>> ((2 : Int32).toInt64.toUInt64 &&& Int64.toUInt64 63)).toInt64) &&& 3689348814741910323)) + (((((v_x - (((v_x.toUInt64 >>> ((1 : Int32).toInt64.toUInt64 &&& Int64.toUInt64 63)).toInt64) &&& 6148914691236517205)) &&& 3689348814741910323) + ((((v_x - (((v_x.toUInt64 >>> ((1 : Int32).toInt64.toUInt64 &&& Int64.toUInt64 63)).toInt64) &&& 6148914691236517205)).toUInt64 >>> ((2 : Int32).toInt64.toUInt64 &&& Int64.toUInt64 63)).toInt64) &&& 3689348814741910323)).toUInt64 >>> ((4 : Int32).toInt64.toUInt64 &&& Int64.toUInt64 63)).toInt64)) &&& 1085102592571150095).toUInt64 >>> ((8 : Int32).toInt64.toUInt64 &&& Int64.toUInt64 63)).toInt64)) + ((((((((v_x - (((v_x.toUInt64 >>> ((1 : Int32).toInt64.toUInt64 &&& Int64.toUInt64 63)).toInt64) &&& 6148914691236517205)) &&& 3689348814741910323) + ((((v_x - (((v_x.toUInt64 >>> ((1 : Int32).toInt64.toUInt64 &&& Int64.toUInt64 63)).toInt64) &&& 6148914691236517205)).toUInt64 >>> ((2 : Int32).toInt64.toUInt64 &&& Int64.toUInt64 63)).toInt64) &&& 3689348814741910323)) + (((((v_x - (((v_x.toUInt64 >>> ((1 : Int32).toInt64.toUInt64 &&& Int64.toUInt64 63)).toInt64) &&& 6148914691236517205)) &&& 3689348814741910323) + ((((v_x - (((v_x.toUInt64 >>> ((1 : Int32).toInt64.toUInt64 &&& Int64.toUInt64 63)).toInt64) &&& 6148914691236517205)).toUInt64 >>> ((2 : Int32).toInt64.toUInt64 &&& Int64.toUInt64 63)).toInt64) &&& 3689348814741910323)).toUInt64 >>> ((4 : Int32).toInt64.toUInt64 &&& Int64.toUInt64 63)).toInt64)) &&& 1085102592571150095) + (((((((v_x - (((v_x.toUInt64 >>> ((1 : Int32).toInt64.toUInt64 &&& Int64.toUInt64 63)).toInt64) &&& 6148914691236517205)) &&& 3689348814741910323) + ((((v_x - (((v_x.toUInt64 >>> ((1 : Int32).toInt64.toUInt64 &&& Int64.toUInt64 63)).toInt64) &&& 6148914691236517205)).toUInt64 >>> ((2 : Int32).toInt64.toUInt64 &&& Int64.toUInt64 63)).toInt64) &&& 3689348814741910323)) + (((((v_x - (((v_x.toUInt64 >>> ((1 : Int32).toInt64.toUInt64 &&& Int64.toUInt64 63)).toInt64) &&& 6148914691236517205)) &&& 3689348814741910323) + ((((v_x - (((v_x.toUInt64 >>> ((1 : Int32).toInt64.toUInt64 &&& Int64.toUInt64 63)).toInt64) &&& 6148914691236517205)).toUInt64 >>> ((2 : Int32).toInt64.toUInt64 &&& Int64.toUInt64 63)).toInt64) &&& 3689348814741910323)).toUInt64 >>> ((4 : Int32).toInt64.toUInt64 &&& Int64.toUInt64 63)).toInt64)) &&& 1085102592571150095).toUInt64 >>> ((8 : Int32).toInt64.toUInt64 &&& Int64.toUInt64 63)).toInt64)).toUInt64 >>> ((16 : Int32).toInt64.toUInt64 &&& Int64.toUInt64 63)).toInt64)).toUInt64 >>> ((32 : Int32).toInt64.toUInt64 &&& Int64.toUInt64 63)).toInt64))), none]) (S' := [.int ((((((((((v_x - (((v_x.toUInt64 >>> ((1 : Int32).toInt64.toUInt64 &&& Int64.toUInt64 63)).toInt64) &&& 6148914691236517205)) &&& 3689348814741910323) + ((((v_x - (((v_x.toUInt64 >>> ((1 : Int32).toInt64.toUInt64 &&& Int64.toUInt64 63)).toInt64) &&& 6148914691236517205)).toUInt64 >>> ((2 : Int32).toInt64.toUInt64 &&& Int64.toUInt64 63)).toInt64) &&& 3689348814741910323)) + (((((v_x - (((v_x.toUInt64 >>> ((1 : Int32).toInt64.toUInt64 &&& Int64.toUInt64 63)).toInt64) &&& 6148914691236517205)) &&& 3689348814741910323) + ((((v_x - (((v_x.toUInt64 >>> ((1 : Int32).toInt64.toUInt64 &&& Int64.toUInt64 63)).toInt64) &&& 6148914691236517205)).toUInt64 >>> ((2 : Int32).toInt64.toUInt64 &&& Int64.toUInt64 63)).toInt64) &&& 3689348814741910323)).toUInt64 >>> ((4 : Int32).toInt64.toUInt64 &&& Int64.toUInt64 63)).toInt64)) &&& 1085102592571150095) + (((((((v_x - (((v_x.toUInt64 >>> ((1 : Int32).toInt64.toUInt64 &&& Int64.toUInt64 63)).toInt64) &&& 6148914691236517205)) &&& 3689348814741910323) + ((((v_x - (((v_x.toUInt64 >>> ((1 : Int32).toInt64.toUInt64 &&& Int64.toUInt64 63)).toInt64) &&& 6148914691236517205)).toUInt64 >>> ((2 : Int32).toInt64.toUInt64 &&& Int64.toUInt64 63)).toInt64) &&& 3689348814741910323)) + (((((v_x - (((v_x.toUInt64 >>> ((1 : Int32).toInt64.toUInt64 &&& Int64.toUInt64 63)).toInt64) &&& 6148914691236517205)) &&& 3689348814741910323) + ((((v_x - (((v_x.toUInt64 >>> ((1 : Int32).toInt64.toUInt64 &&& Int64.toUInt64 63)).toInt64) &&& 6148914691236517205)).toUInt64 >>> ((2 : Int32).toInt64.toUInt64 &&& Int64.toUInt64 63)).toInt64) &&& 3689348814741910323)).toUInt64 >>> ((4 : Int32).toInt64.toUInt64 &&& Int64.toUInt64 63)).toInt64)) &&& 1085102592571150095).toUInt64 >>> ((8 : Int32).toInt64.toUInt64 &&& Int64.toUInt64 63)).toInt64)) + ((((((((v_x - (((v_x.toUInt64 >>> ((1 : Int32).toInt64.toUInt64 &&& Int64.toUInt64 63)).toInt64) &&& 6148914691236517205)) &&& 3689348814741910323) + ((((v_x - (((v_x.toUInt64 >>> ((1 : Int32).toInt64.toUInt64 &&& Int64.toUInt64 63)).toInt64) &&& 6148914691236517205)).toUInt64 >>> ((2 : Int32).toInt64.toUInt64 &&& Int64.toUInt64 63)).toInt64) &&& 3689348814741910323)) + (((((v_x - (((v_x.toUInt64 >>> ((1 : Int32).toInt64.toUInt64 &&& Int64.toUInt64 63)).toInt64) &&& 6148914691236517205)) &&& 3689348814741910323) + ((((v_x - (((v_x.toUInt64 >>> ((1 : Int32).toInt64.toUInt64 &&& Int64.toUInt64 63)).toInt64) &&& 6148914691236517205)).toUInt64 >>> ((2 : Int32).toInt64.toUInt64 &&& Int64.toUInt64 63)).toInt64) &&& 3689348814741910323)).toUInt64 >>> ((4 : Int32).toInt64.toUInt64 &&& Int64.toUInt64 63)).toInt64)) &&& 1085102592571150095) + (((((((v_x - (((v_x.toUInt64 >>> ((1 : Int32).toInt64.toUInt64 &&& Int64.toUInt64 63)).toInt64) &&& 6148914691236517205)) &&& 3689348814741910323) + ((((v_x - (((v_x.toUInt64 >>> ((1 : Int32).toInt64.toUInt64 &&& Int64.toUInt64 63)).toInt64) &&& 6148914691236517205)).toUInt64 >>> ((2 : Int32).toInt64.toUInt64 &&& Int64.toUInt64 63)).toInt64) &&& 3689348814741910323)) + (((((v_x - (((v_x.toUInt64 >>> ((1 : Int32).toInt64.toUInt64 &&& Int64.toUInt64 63)).toInt64) &&& 6148914691236517205)) &&& 3689348814741910323) + ((((v_x - (((v_x.toUInt64 >>> ((1 : Int32).toInt64.toUInt64 &&& Int64.toUInt64 63)).toInt64) &&& 6148914691236517205)).toUInt64 >>> ((2 : Int32).toInt64.toUInt64 &&& Int64.toUInt64 63)).toInt64) &&& 3689348814741910323)).toUInt64 >>> ((4 : Int32).toInt64.toUInt64 &&& Int64.toUInt64 63)).toInt64)) &&& 1085102592571150095).toUInt64 >>> ((8 : Int32).toInt64.toUInt64 &&& Int64.toUInt64 63)).toInt64)).toUInt64 >>> ((16 : Int32).toInt64.toUInt64 &&& Int64.toUInt64 63)).toInt64)) + (((((((((v_x - (((v_x.toUInt64 >>> ((1 : Int32).toInt64.toUInt64 &&& Int64.toUInt64 63)).toInt64) &&& 6148914691236517205)) &&& 3689348814741910323) + ((((v_x - (((v_x.toUInt64 >>> ((1 : Int32).toInt64.toUInt64 &&& Int64.toUInt64 63)).toInt64) &&& 6148914691236517205)).toUInt64 >>> ((2 : Int32).toInt64.toUInt64 &&& Int64.toUInt64 63)).toInt64) &&& 3689348814741910323)) + (((((v_x - (((v_x.toUInt64 >>> ((1 : Int32).toInt64.toUInt64 &&& Int64.toUInt64 63)).toInt64) &&& 6148914691236517205)) &&& 3689348814741910323) + ((((v_x - (((v_x.toUInt64 >>> ((1 : Int32).toInt64.toUInt64 &&& Int64.toUInt64 63)).toInt64) &&& 6148914691236517205)).toUInt64 >>> ((2 : Int32).toInt64.toUInt64 &&& Int64.toUInt64 63)).toInt64) &&& 3689348814741910323)).toUInt64 >>> ((4 : Int32).toInt64.toUInt64 &&& Int64.toUInt64 63)).toInt64)) &&& 1085102592571150095) + (((((((v_x - (((v_x.toUInt64 >>> ((1 : Int32).toInt64.toUInt64 &&& Int64.toUInt64 63)).toInt64) &&& 6148914691236517205)) &&& 3689348814741910323) + ((((v_x - (((v_x.toUInt64 >>> ((1 : Int32).toInt64.toUInt64 &&& Int64.toUInt64 63)).toInt64) &&& 6148914691236517205)).toUInt64 >>> ((2 : Int32).toInt64.toUInt64 &&& Int64.toUInt64 63)).toInt64) &&& 3689348814741910323)) + (((((v_x - (((v_x.toUInt64 >>> ((1 : Int32).toInt64.toUInt64 &&& Int64.toUInt64 63)).toInt64) &&& 6148914691236517205)) &&& 3689348814741910323) + ((((v_x - (((v_x.toUInt64 >>> ((1 : Int32).toInt64.toUInt64 &&& Int64.toUInt64 63)).toInt64) &&& 6148914691236517205)).toUInt64 >>> ((2 : Int32).toInt64.toUInt64 &&& Int64.toUInt64 63)).toInt64) &&& 3689348814741910323)).toUInt64 >>> ((4 : Int32).toInt64.toUInt64 &&& Int64.toUInt64 63)).toInt64)) &&& 1085102592571150095).toUInt64 >>> ((8 : Int32).toInt64.toUInt64 &&& Int64.toUInt64 63)).toInt64)) + ((((((((v_x - (((v_x.toUInt64 >>> ((1 : Int32).toInt64.toUInt64 &&& Int64.toUInt64 63)).toInt64) &&& 6148914691236517205)) &&& 3689348814741910323) + ((((v_x - (((v_x.toUInt64 >>> ((1 : Int32).toInt64.toUInt64 &&& Int64.toUInt64 63)).toInt64) &&& 6148914691236517205)).toUInt64 >>> ((2 : Int32).toInt64.toUInt64 &&& Int64.toUInt64 63)).toInt64) &&& 3689348814741910323)) + (((((v_x - (((v_x.toUInt64 >>> ((1 : Int32).toInt64.toUInt64 &&& Int64.toUInt64 63)).toInt64) &&& 6148914691236517205)) &&& 3689348814741910323) + ((((v_x - (((v_x.toUInt64 >>> ((1 : Int32).toInt64.toUInt64 &&& Int64.toUInt64 63)).toInt64) &&& 6148914691236517205)).toUInt64 >>> ((2 : Int32).toInt64.toUInt64 &&& Int64.toUInt64 63)).toInt64) &&& 3689348814741910323)).toUInt64 >>> ((4 : Int32).toInt64.toUInt64 &&& Int64.toUInt64 63)).toInt64)) &&& 1085102592571150095) + (((((((v_x - (((v_x.toUInt64 >>> ((1 : Int32).toInt64.toUInt64 &&& Int64.toUInt64 63)).toInt64) &&& 6148914691236517205)) &&& 3689348814741910323) + ((((v_x - (((v_x.toUInt64 >>> ((1 : Int32).toInt64.toUInt64 &&& Int64.toUInt64 63)).toInt64) &&& 6148914691236517205)).toUInt64 >>> ((2 : Int32).toInt64.toUInt64 &&& Int64.toUInt64 63)).toInt64) &&& 3689348814741910323)) + (((((v_x - (((v_x.toUInt64 >>> ((1 : Int32).toInt64.toUInt64 &&& Int64.toUInt64 63)).toInt64) &&& 6148914691236517205)) &&& 3689348814741910323) + ((((v_x - (((v_x.toUInt64 >>> ((1 : Int32).toInt64.toUInt64 &&& Int64.toUInt64 63)).toInt64) &&& 6148914691236517205)).toUInt64 >>> ((2 : Int32).toInt64.toUInt64 &&& Int64.toUInt64 63)).toInt64) &&& 3689348814741910323)).toUInt64 >>> ((4 : Int32).toInt64.toUInt64 &&& Int64.toUInt64 63)).toInt64)) &&& 1085102592571150095).toUInt64 >>> ((8 : Int32).toInt64.toUInt64 &&& Int64.toUInt64 63)).toInt64)).toUInt64 >>> ((16 : Int32).toInt64.toUInt64 &&& Int64.toUInt64 63)).toInt64)).toUInt64 >>> ((32 : Int32).toInt64.toUInt64 &&& Int64.toUInt64 63)).toInt64)).toInt32) &&& 127)]) (C' := mcJ13_bitCount_95d88) rfl trivial ?_
  exact xR_ret K pq_J13_bitCount_95d88 rfl
def pg_J7_fill_53178 : xPg := [(0, .iconst 0, .int 0), (1, .istore_n 2, .null), (2, .aload_n 0, .null), (3, .arraylength, .null), (4, .istore_n 3, .null), (5, .iload_n 2, .null), (6, .iload_n 3, .null), (7, .if_icmp .ge 13, .retAddr 20), (10, .aload_n 0, .null), (11, .iload_n 2, .null), (12, .iload_n 1, .null), (13, .iastore, .null), (14, .iinc 2 1, .int 1), (17, .goto (-12), .retAddr 5), (20, .return_, .null)]
theorem pq_J7_fill_53178 : xPq RJ7 cJ7_fill_53178 tb_J7 pg_J7_fill_53178 := ⟨tab_J7, xPok_of (by decide +kernel)⟩
theorem cy_J7_fill_53178 : xCy yJ7_fill_53178 cJ7_fill_53178 4 none := ⟨xtb_in (i := 327) (by decide +kernel) rfl, xtb_in (i := 157) (by decide +kernel) rfl, by decide +kernel, by decide +kernel⟩
theorem ss_J7_fill_53178 : Cond.static yJ7_fill_53178 ∈ xtb := xtb_in (i := 326) (by decide +kernel) rfl
theorem ar_J7_fill_53178 : xar yJ7_fill_53178 2 := by unfold xar; decide +kernel
def mcJ7_fill_53178 (n_row : Nat) (a_row : Nat → Int32) : xC := [(1000, .inl (0, n_row, .inl a_row))]
def meJ7_fill_53178 (n_row : Nat) (a_row : Nat → Int32) : (Nat → Int32) → xRes := fun r => some (none, mcJ7_fill_53178 n_row r)
def mJ7_fill_53178_5 (v_v : Int32)  : Nat → Nat → (Nat → Int32) → (Nat → Int32)
  | 0, i5, a_row_5 => a_row_5
  | k5 + 1, i5, a_row_5 =>
    mJ7_fill_53178_5 v_v k5 (i5 + 1) (upd a_row_5 (nI i5).toNatClampNeg v_v)
def mJ7_fill_53178 (n_row : Nat) (v_v : Int32) (a_row : Nat → Int32) : (Nat → Int32) :=
  mJ7_fill_53178_5 v_v n_row 0 a_row
set_option maxRecDepth 100000 in
set_option maxHeartbeats 1500000 in
theorem kJ7_fill_53178 (l : Launch) (n_row : Nat) (v_v : Int32) (a_row : Nat → Int32) (hn_row : n_row < 2 ^ 31) : xMet l 0 yJ7_fill_53178 cJ7_fill_53178 4 none [.ref 1000, .int v_v] (mcJ7_fill_53178 n_row a_row) (meJ7_fill_53178 n_row a_row (mJ7_fill_53178 n_row v_v a_row)) := by
  refine xMet_of cy_J7_fill_53178 [some (.ref 1000), some (.int v_v), none, none] rfl (Nat.le_of_ble_eq_true rfl) (fun X K => ?_)
  have J5 : ∀ (k5 i5 : Nat) (a_row_5 : Nat → Int32) (hik5 : i5 + k5 = n_row) (g0_5 : n_row < 2 ^ 31), xR X (meJ7_fill_53178 n_row a_row (mJ7_fill_53178_5 v_v k5 i5 a_row_5)) 5 [some (.ref 1000), some (.int v_v), some (.int (nI i5)), some (.int (Int32.ofNat n_row))] [] (mcJ7_fill_53178 n_row a_row_5) := by
    intro k5
    induction k5 with
    | zero =>
      intro i5 a_row_5 hik5 g0_5
      rw [mJ7_fill_53178_5.eq_1]
      refine xR_st K pq_J7_fill_53178 2 (pc' := 7) (L' := [some (.ref 1000), some (.int v_v), some (.int (nI i5)), some (.int (Int32.ofNat n_row))]) (S' := [.int (Int32.ofNat n_row), .int (nI i5)]) (C' := mcJ7_fill_53178 n_row a_row_5) rfl trivial ?_
      refine xR_if2 K pq_J7_fill_53178 rfl ⟨rfl, rfl⟩ (fun _ => ?_) (fun hx => absurd hx (xlt_no n_row hik5 (by first | assumption | decide)))
      exact xR_retv K pq_J7_fill_53178 rfl
    | succ k5 ih =>
      intro i5 a_row_5 hik5 g0_5
      rw [mJ7_fill_53178_5.eq_2]
      refine xR_st K pq_J7_fill_53178 2 (pc' := 7) (L' := [some (.ref 1000), some (.int v_v), some (.int (nI i5)), some (.int (Int32.ofNat n_row))]) (S' := [.int (Int32.ofNat n_row), .int (nI i5)]) (C' := mcJ7_fill_53178 n_row a_row_5) rfl trivial ?_
      refine xR_if2 K pq_J7_fill_53178 rfl ⟨rfl, rfl⟩ (fun hx => absurd (xlt_yes n_row hik5 (by first | assumption | decide)) hx) (fun _ => ?_)
      refine xR_st K pq_J7_fill_53178 6 (pc' := 5) (L' := [some (.ref 1000), some (.int v_v), some (.int ((nI i5) + 1)), some (.int (Int32.ofNat n_row))]) (S' := []) (C' := mcJ7_fill_53178 n_row (upd a_row_5 (nI i5).toNatClampNeg v_v)) rfl ⟨xin_nat rfl (by omega) (by first | assumption | decide), trivial⟩ ?_
      exact xR_less2 (ih (i5 + 1) _ (by omega) g0_5) ⟨rfl, rfl, xcnt i5, rfl, trivial⟩
  refine xR_st K pq_J7_fill_53178 5 (pc' := 5) (L' := [some (.ref 1000), some (.int v_v), some (.int 0), some (.int (Int32.ofNat n_row))]) (S' := []) (C' := mcJ7_fill_53178 n_row a_row) rfl trivial ?_
  exact xR_less2 (J5 _ _ _ (by first | rfl | omega) hn_row) ⟨rfl, rfl, rfl, rfl, trivial⟩
def pg_J7_fill_d0a16 : xPg := [(0, .iconst 0, .int 0), (1, .istore_n 3, .null), (2, .aload_n 0, .null), (3, .arraylength, .null), (4, .istore 4, .null), (6, .iload_n 3, .null), (7, .iload 4, .null), (9, .if_icmp .ge 13, .retAddr 22), (12, .aload_n 0, .null), (13, .iload_n 3, .null), (14, .lload_n 1, .null), (15, .lastore, .null), (16, .iinc 3 1, .int 1), (19, .goto (-13), .retAddr 6), (22, .return_, .null)]
theorem pq_J7_fill_d0a16 : xPq RJ7 cJ7_fill_d0a16 tb_J7 pg_J7_fill_d0a16 := ⟨tab_J7, xPok_of (by decide +kernel)⟩
theorem cy_J7_fill_d0a16 : xCy yJ7_fill_d0a16 cJ7_fill_d0a16 5 none := ⟨xtb_in (i := 894) (by decide +kernel) rfl, xtb_in (i := 157) (by decide +kernel) rfl, by decide +kernel, by decide +kernel⟩
theorem ss_J7_fill_d0a16 : Cond.static yJ7_fill_d0a16 ∈ xtb := xtb_in (i := 893) (by decide +kernel) rfl
theorem ar_J7_fill_d0a16 : xar yJ7_fill_d0a16 2 := by unfold xar; decide +kernel
def mcJ7_fill_d0a16 (n_row : Nat) (a_row : Nat → Int64) : xC := [(1000, .inl (1, n_row, .inr (.inl a_row)))]
def meJ7_fill_d0a16 (n_row : Nat) (a_row : Nat → Int64) : (Nat → Int64) → xRes := fun r => some (none, mcJ7_fill_d0a16 n_row r)
def mJ7_fill_d0a16_6 (v_v : Int64)  : Nat → Nat → (Nat → Int64) → (Nat → Int64)
  | 0, i6, a_row_6 => a_row_6
  | k6 + 1, i6, a_row_6 =>
    mJ7_fill_d0a16_6 v_v k6 (i6 + 1) (vp_updL a_row_6 (nI i6).toNatClampNeg v_v)
def mJ7_fill_d0a16 (n_row : Nat) (v_v : Int64) (a_row : Nat → Int64) : (Nat → Int64) :=
  mJ7_fill_d0a16_6 v_v n_row 0 a_row
set_option maxRecDepth 100000 in
set_option maxHeartbeats 1500000 in
theorem kJ7_fill_d0a16 (l : Launch) (n_row : Nat) (v_v : Int64) (a_row : Nat → Int64) (hn_row : n_row < 2 ^ 31) : xMet l 0 yJ7_fill_d0a16 cJ7_fill_d0a16 5 none [.ref 1000, .long v_v] (mcJ7_fill_d0a16 n_row a_row) (meJ7_fill_d0a16 n_row a_row (mJ7_fill_d0a16 n_row v_v a_row)) := by
  refine xMet_of cy_J7_fill_d0a16 [some (.ref 1000), some (.long v_v), none, none, none] rfl (Nat.le_of_ble_eq_true rfl) (fun X K => ?_)
  have J6 : ∀ (k6 i6 : Nat) (a_row_6 : Nat → Int64) (hik6 : i6 + k6 = n_row) (g0_6 : n_row < 2 ^ 31), xR X (meJ7_fill_d0a16 n_row a_row (mJ7_fill_d0a16_6 v_v k6 i6 a_row_6)) 6 [some (.ref 1000), some (.long v_v), none, some (.int (nI i6)), some (.int (Int32.ofNat n_row))] [] (mcJ7_fill_d0a16 n_row a_row_6) := by
    intro k6
    induction k6 with
    | zero =>
      intro i6 a_row_6 hik6 g0_6
      rw [mJ7_fill_d0a16_6.eq_1]
      refine xR_st K pq_J7_fill_d0a16 2 (pc' := 9) (L' := [some (.ref 1000), some (.long v_v), none, some (.int (nI i6)), some (.int (Int32.ofNat n_row))]) (S' := [.int (Int32.ofNat n_row), .int (nI i6)]) (C' := mcJ7_fill_d0a16 n_row a_row_6) rfl trivial ?_
      refine xR_if2 K pq_J7_fill_d0a16 rfl ⟨rfl, rfl⟩ (fun _ => ?_) (fun hx => absurd hx (xlt_no n_row hik6 (by first | assumption | decide)))
      exact xR_retv K pq_J7_fill_d0a16 rfl
    | succ k6 ih =>
      intro i6 a_row_6 hik6 g0_6
      rw [mJ7_fill_d0a16_6.eq_2]
      refine xR_st K pq_J7_fill_d0a16 2 (pc' := 9) (L' := [some (.ref 1000), some (.long v_v), none, some (.int (nI i6)), some (.int (Int32.ofNat n_row))]) (S' := [.int (Int32.ofNat n_row), .int (nI i6)]) (C' := mcJ7_fill_d0a16 n_row a_row_6) rfl trivial ?_
      refine xR_if2 K pq_J7_fill_d0a16 rfl ⟨rfl, rfl⟩ (fun hx => absurd (xlt_yes n_row hik6 (by first | assumption | decide)) hx) (fun _ => ?_)
      refine xR_st K pq_J7_fill_d0a16 6 (pc' := 6) (L' := [some (.ref 1000), some (.long v_v), none, some (.int ((nI i6) + 1)), some (.int (Int32.ofNat n_row))]) (S' := []) (C' := mcJ7_fill_d0a16 n_row (vp_updL a_row_6 (nI i6).toNatClampNeg v_v)) rfl ⟨xin_nat rfl (by omega) (by first | assumption | decide), trivial⟩ ?_
      exact xR_less2 (ih (i6 + 1) _ (by omega) g0_6) ⟨rfl, rfl, xcnt i6, rfl, trivial⟩
  refine xR_st K pq_J7_fill_d0a16 5 (pc' := 6) (L' := [some (.ref 1000), some (.long v_v), none, some (.int 0), some (.int (Int32.ofNat n_row))]) (S' := []) (C' := mcJ7_fill_d0a16 n_row a_row) rfl trivial ?_
  exact xR_less2 (J6 _ _ _ (by first | rfl | omega) hn_row) ⟨rfl, rfl, rfl, rfl, trivial⟩
def pg_J9_floorDiv_7cf53 : xPg := [(0, .iload_n 0, .null), (1, .iload_n 1, .null), (2, .idiv, .null), (3, .istore_n 2, .null), (4, .iload_n 0, .null), (5, .iload_n 1, .null), (6, .ixor, .null), (7, .ifCond .ge 14, .retAddr 21), (10, .iload_n 2, .null), (11, .iload_n 1, .null), (12, .imul, .null), (13, .iload_n 0, .null), (14, .if_icmp .eq 7, .retAddr 21), (17, .iload_n 2, .null), (18, .iconst 1, .int 1), (19, .isub, .null), (20, .ireturn, .null), (21, .iload_n 2, .null), (22, .ireturn, .null)]
theorem pq_J9_floorDiv_7cf53 : xPq RJ9 cJ9_floorDiv_7cf53 tb_J9 pg_J9_floorDiv_7cf53 := ⟨tab_J9, xPok_of (by decide +kernel)⟩
theorem cy_J9_floorDiv_7cf53 : xCy yJ9_floorDiv_7cf53 cJ9_floorDiv_7cf53 3 (some .int) := ⟨xtb_in (i := 1049) (by decide +kernel) rfl, xtb_in (i := 172) (by decide +kernel) rfl, by decide +kernel, by decide +kernel⟩
theorem ss_J9_floorDiv_7cf53 : Cond.static yJ9_floorDiv_7cf53 ∈ xtb := xtb_in (i := 1048) (by decide +kernel) rfl
theorem ar_J9_floorDiv_7cf53 : xar yJ9_floorDiv_7cf53 2 := by unfold xar; decide +kernel
def mcJ9_floorDiv_7cf53  : xC := []
def meJ9_floorDiv_7cf53  : Int32 → xRes := fun r => some (some (.int r), mcJ9_floorDiv_7cf53)
def mJ9_floorDiv_7cf53 (v_x : Int32) (v_y : Int32) : Int32 :=
  if (v_x ^^^ v_y) < 0 then
    if ((v_x / v_y) * v_y) = v_x then
      v_x / v_y
    else
      (v_x / v_y) - 1
  else
    v_x / v_y
set_option maxRecDepth 100000 in
set_option maxHeartbeats 1500000 in
theorem kJ9_floorDiv_7cf53 (l : Launch) (v_x : Int32) (v_y : Int32) (hp_y : ¬ v_y = 0) : xMet l 0 yJ9_floorDiv_7cf53 cJ9_floorDiv_7cf53 3 (some .int) [.int v_x, .int v_y] (mcJ9_floorDiv_7cf53) (meJ9_floorDiv_7cf53 (mJ9_floorDiv_7cf53 v_x v_y)) := by
  refine xMet_of cy_J9_floorDiv_7cf53 [some (.int v_x), some (.int v_y), none] rfl (Nat.le_of_ble_eq_true rfl) (fun X K => ?_)
  refine xR_st K pq_J9_floorDiv_7cf53 7 (pc' := 7) (L' := [some (.int v_x), some (.int v_y), some (.int (v_x / v_y))]) (S' := [.int (v_x ^^^ v_y)]) (C' := mcJ9_floorDiv_7cf53) rfl ⟨hp_y, trivial⟩ ?_
  refine xR_i0 (enc := meJ9_floorDiv_7cf53) (q1 := 10) (q2 := 21) K pq_J9_floorDiv_7cf53 rfl rfl rfl rfl (fun h1 => ?_) (fun h1 => ?_)
  · refine xR_st K pq_J9_floorDiv_7cf53 4 (pc' := 14) (L' := [some (.int v_x), some (.int v_y), some (.int (v_x / v_y))]) (S' := [.int v_x, .int ((v_x / v_y) * v_y)]) (C' := mcJ9_floorDiv_7cf53) rfl trivial ?_
    refine xR_i2 (enc := meJ9_floorDiv_7cf53) (q1 := 21) (q2 := 17) K pq_J9_floorDiv_7cf53 rfl rfl rfl rfl (fun h2 => ?_) (fun h2 => ?_)
    · refine xR_st K pq_J9_floorDiv_7cf53 1 (pc' := 22) (L' := [some (.int v_x), some (.int v_y), some (.int (v_x / v_y))]) (S' := [.int (v_x / v_y)]) (C' := mcJ9_floorDiv_7cf53) rfl trivial ?_
      exact xR_ret K pq_J9_floorDiv_7cf53 rfl
    · refine xR_st K pq_J9_floorDiv_7cf53 3 (pc' := 20) (L' := [some (.int v_x), some (.int v_y), some (.int (v_x / v_y))]) (S' := [.int ((v_x / v_y) - 1)]) (C' := mcJ9_floorDiv_7cf53) rfl trivial ?_
      exact xR_ret K pq_J9_floorDiv_7cf53 rfl
  · refine xR_st K pq_J9_floorDiv_7cf53 1 (pc' := 22) (L' := [some (.int v_x), some (.int v_y), some (.int (v_x / v_y))]) (S' := [.int (v_x / v_y)]) (C' := mcJ9_floorDiv_7cf53) rfl trivial ?_
    exact xR_ret K pq_J9_floorDiv_7cf53 rfl
def pg_J9_floorMod_7cf53 : xPg := [(0, .iload_n 0, .null), (1, .iload_n 1, .null), (2, .irem, .null), (3, .istore_n 2, .null), (4, .iload_n 0, .null), (5, .iload_n 1, .null), (6, .ixor, .null), (7, .ifCond .ge 11, .retAddr 18), (10, .iload_n 2, .null), (11, .ifCond .eq 7, .retAddr 18), (14, .iload_n 2, .null), (15, .iload_n 1, .null), (16, .iadd, .null), (17, .ireturn, .null), (18, .iload_n 2, .null), (19, .ireturn, .null)]
theorem pq_J9_floorMod_7cf53 : xPq RJ9 cJ9_floorMod_7cf53 tb_J9 pg_J9_floorMod_7cf53 := ⟨tab_J9, xPok_of (by decide +kernel)⟩
theorem cy_J9_floorMod_7cf53 : xCy yJ9_floorMod_7cf53 cJ9_floorMod_7cf53 3 (some .int) := ⟨xtb_in (i := 1052) (by decide +kernel) rfl, xtb_in (i := 172) (by decide +kernel) rfl, by decide +kernel, by decide +kernel⟩
theorem ss_J9_floorMod_7cf53 : Cond.static yJ9_floorMod_7cf53 ∈ xtb := xtb_in (i := 1051) (by decide +kernel) rfl
theorem ar_J9_floorMod_7cf53 : xar yJ9_floorMod_7cf53 2 := by unfold xar; decide +kernel
def mcJ9_floorMod_7cf53  : xC := []
def meJ9_floorMod_7cf53  : Int32 → xRes := fun r => some (some (.int r), mcJ9_floorMod_7cf53)
def mJ9_floorMod_7cf53 (v_x : Int32) (v_y : Int32) : Int32 :=
  if (v_x ^^^ v_y) < 0 then
    if (v_x - v_x / v_y * v_y) = 0 then
      v_x - v_x / v_y * v_y
    else
      (v_x - v_x / v_y * v_y) + v_y
  else
    v_x - v_x / v_y * v_y
set_option maxRecDepth 100000 in
set_option maxHeartbeats 1500000 in
theorem kJ9_floorMod_7cf53 (l : Launch) (v_x : Int32) (v_y : Int32) (hp_y : ¬ v_y = 0) : xMet l 0 yJ9_floorMod_7cf53 cJ9_floorMod_7cf53 3 (some .int) [.int v_x, .int v_y] (mcJ9_floorMod_7cf53) (meJ9_floorMod_7cf53 (mJ9_floorMod_7cf53 v_x v_y)) := by
  refine xMet_of cy_J9_floorMod_7cf53 [some (.int v_x), some (.int v_y), none] rfl (Nat.le_of_ble_eq_true rfl) (fun X K => ?_)
  refine xR_st K pq_J9_floorMod_7cf53 7 (pc' := 7) (L' := [some (.int v_x), some (.int v_y), some (.int (v_x - v_x / v_y * v_y))]) (S' := [.int (v_x ^^^ v_y)]) (C' := mcJ9_floorMod_7cf53) rfl ⟨hp_y, trivial⟩ ?_
  refine xR_i0 (enc := meJ9_floorMod_7cf53) (q1 := 10) (q2 := 18) K pq_J9_floorMod_7cf53 rfl rfl rfl rfl (fun h1 => ?_) (fun h1 => ?_)
  · refine xR_st K pq_J9_floorMod_7cf53 1 (pc' := 11) (L' := [some (.int v_x), some (.int v_y), some (.int (v_x - v_x / v_y * v_y))]) (S' := [.int (v_x - v_x / v_y * v_y)]) (C' := mcJ9_floorMod_7cf53) rfl trivial ?_
    refine xR_i0 (enc := meJ9_floorMod_7cf53) (q1 := 18) (q2 := 14) K pq_J9_floorMod_7cf53 rfl rfl rfl rfl (fun h2 => ?_) (fun h2 => ?_)
    · refine xR_st K pq_J9_floorMod_7cf53 1 (pc' := 19) (L' := [some (.int v_x), some (.int v_y), some (.int (v_x - v_x / v_y * v_y))]) (S' := [.int (v_x - v_x / v_y * v_y)]) (C' := mcJ9_floorMod_7cf53) rfl trivial ?_
      exact xR_ret K pq_J9_floorMod_7cf53 rfl
    · refine xR_st K pq_J9_floorMod_7cf53 3 (pc' := 17) (L' := [some (.int v_x), some (.int v_y), some (.int (v_x - v_x / v_y * v_y))]) (S' := [.int ((v_x - v_x / v_y * v_y) + v_y)]) (C' := mcJ9_floorMod_7cf53) rfl trivial ?_
      exact xR_ret K pq_J9_floorMod_7cf53 rfl
  · refine xR_st K pq_J9_floorMod_7cf53 1 (pc' := 19) (L' := [some (.int v_x), some (.int v_y), some (.int (v_x - v_x / v_y * v_y))]) (S' := [.int (v_x - v_x / v_y * v_y)]) (C' := mcJ9_floorMod_7cf53) rfl trivial ?_
    exact xR_ret K pq_J9_floorMod_7cf53 rfl
def pg_J9_max_7cf53 : xPg := [(0, .iload_n 0, .null), (1, .iload_n 1, .null), (2, .if_icmp .lt 7, .retAddr 9), (5, .iload_n 0, .null), (6, .goto 4, .retAddr 10), (9, .iload_n 1, .null), (10, .ireturn, .null)]
theorem pq_J9_max_7cf53 : xPq RJ9 cJ9_max_7cf53 tb_J9 pg_J9_max_7cf53 := ⟨tab_J9, xPok_of (by decide +kernel)⟩
theorem cy_J9_max_7cf53 : xCy yJ9_max_7cf53 cJ9_max_7cf53 2 (some .int) := ⟨xtb_in (i := 1462) (by decide +kernel) rfl, xtb_in (i := 172) (by decide +kernel) rfl, by decide +kernel, by decide +kernel⟩
theorem ss_J9_max_7cf53 : Cond.static yJ9_max_7cf53 ∈ xtb := xtb_in (i := 1461) (by decide +kernel) rfl
theorem ar_J9_max_7cf53 : xar yJ9_max_7cf53 2 := by unfold xar; decide +kernel
def mcJ9_max_7cf53  : xC := []
def meJ9_max_7cf53  : Int32 → xRes := fun r => some (some (.int r), mcJ9_max_7cf53)
def mJ9_max_7cf53 (v_x : Int32) (v_y : Int32) : Int32 :=
  if v_x < v_y then
    v_y
  else
    v_x
set_option maxRecDepth 100000 in
set_option maxHeartbeats 1500000 in
theorem kJ9_max_7cf53 (l : Launch) (v_x : Int32) (v_y : Int32)  : xMet l 0 yJ9_max_7cf53 cJ9_max_7cf53 2 (some .int) [.int v_x, .int v_y] (mcJ9_max_7cf53) (meJ9_max_7cf53 (mJ9_max_7cf53 v_x v_y)) := by
  refine xMet_of cy_J9_max_7cf53 [some (.int v_x), some (.int v_y)] rfl (Nat.le_of_ble_eq_true rfl) (fun X K => ?_)
  refine xR_st K pq_J9_max_7cf53 2 (pc' := 2) (L' := [some (.int v_x), some (.int v_y)]) (S' := [.int v_y, .int v_x]) (C' := mcJ9_max_7cf53) rfl trivial ?_
  refine xR_i2 (enc := meJ9_max_7cf53) (q1 := 9) (q2 := 5) K pq_J9_max_7cf53 rfl rfl rfl rfl (fun h1 => ?_) (fun h1 => ?_)
  · refine xR_st K pq_J9_max_7cf53 1 (pc' := 10) (L' := [some (.int v_x), some (.int v_y)]) (S' := [.int v_y]) (C' := mcJ9_max_7cf53) rfl trivial ?_
    exact xR_ret K pq_J9_max_7cf53 rfl
  · refine xR_st K pq_J9_max_7cf53 2 (pc' := 10) (L' := [some (.int v_x), some (.int v_y)]) (S' := [.int v_x]) (C' := mcJ9_max_7cf53) rfl trivial ?_
    exact xR_ret K pq_J9_max_7cf53 rfl
def pg_X11_at : xPg := [(0, .iload_n 1, .null), (1, .ifCond .lt 15, .retAddr 16), (4, .iload_n 1, .null), (5, .aload_n 0, .null), (6, .arraylength, .null), (7, .if_icmp .ge 9, .retAddr 16), (10, .aload_n 0, .null), (11, .iload_n 1, .null), (12, .iaload, .null), (13, .goto 4, .retAddr 17), (16, .iconst (-1), .int (-1)), (17, .ireturn, .null)]
theorem pq_X11_at : xPq RX11 cX11_at tb_X11 pg_X11_at := ⟨tab_X11, xPok_of (by decide +kernel)⟩
theorem cy_X11_at : xCy yX11_at cX11_at 2 (some .int) := ⟨xtb_in (i := 666) (by decide +kernel) rfl, xtb_in (i := 153) (by decide +kernel) rfl, by decide +kernel, by decide +kernel⟩
theorem ss_X11_at : Cond.static yX11_at ∈ xtb := xtb_in (i := 665) (by decide +kernel) rfl
theorem ar_X11_at : xar yX11_at 2 := by unfold xar; decide +kernel
def mcX11_at (n_row : Nat) (a_row : Nat → Int32) : xC := [(1000, .inl (0, n_row, .inl a_row))]
def meX11_at (n_row : Nat) (a_row : Nat → Int32) : Int32 → xRes := fun r => some (some (.int r), mcX11_at n_row a_row)
def mX11_at (n_row : Nat) (v_k : Int32) (a_row : Nat → Int32) : Int32 :=
  if v_k < 0 then
    ((-1) : Int32)
  else
    if v_k < (Int32.ofNat n_row) then
      a_row v_k.toNatClampNeg
    else
      ((-1) : Int32)
set_option maxRecDepth 100000 in
set_option maxHeartbeats 1500000 in
theorem kX11_at (l : Launch) (n_row : Nat) (v_k : Int32) (a_row : Nat → Int32) (hn_row : n_row < 2 ^ 31) : xMet l 0 yX11_at cX11_at 2 (some .int) [.ref 1000, .int v_k] (mcX11_at n_row a_row) (meX11_at n_row a_row (mX11_at n_row v_k a_row)) := by
  refine xMet_of cy_X11_at [some (.ref 1000), some (.int v_k)] rfl (Nat.le_of_ble_eq_true rfl) (fun X K => ?_)
  refine xR_st K pq_X11_at 1 (pc' := 1) (L' := [some (.ref 1000), some (.int v_k)]) (S' := [.int v_k]) (C' := mcX11_at n_row a_row) rfl trivial ?_
  refine xR_i0 (enc := meX11_at n_row a_row) (q1 := 16) (q2 := 4) K pq_X11_at rfl rfl rfl rfl (fun h1 => ?_) (fun h1 => ?_)
  · refine xR_st K pq_X11_at 1 (pc' := 17) (L' := [some (.ref 1000), some (.int v_k)]) (S' := [.int (-1)]) (C' := mcX11_at n_row a_row) rfl trivial ?_
    exact xR_ret K pq_X11_at rfl
  · refine xR_st K pq_X11_at 3 (pc' := 7) (L' := [some (.ref 1000), some (.int v_k)]) (S' := [.int (Int32.ofNat n_row), .int v_k]) (C' := mcX11_at n_row a_row) rfl trivial ?_
    refine xR_i2 (enc := meX11_at n_row a_row) (q1 := 10) (q2 := 16) K pq_X11_at rfl rfl rfl rfl (fun h2 => ?_) (fun h2 => ?_)
    · refine xR_st K pq_X11_at 4 (pc' := 17) (L' := [some (.ref 1000), some (.int v_k)]) (S' := [.int (a_row v_k.toNatClampNeg)]) (C' := mcX11_at n_row a_row) rfl ⟨xin_n h1 h2 (by first | assumption | decide), trivial⟩ ?_
      exact xR_ret K pq_X11_at rfl
    · refine xR_st K pq_X11_at 1 (pc' := 17) (L' := [some (.ref 1000), some (.int v_k)]) (S' := [.int (-1)]) (C' := mcX11_at n_row a_row) rfl trivial ?_
      exact xR_ret K pq_X11_at rfl
def pg_X11_put : xPg := [(0, .iload_n 1, .null), (1, .ifCond .lt 13, .retAddr 14), (4, .iload_n 1, .null), (5, .aload_n 0, .null), (6, .arraylength, .null), (7, .if_icmp .ge 7, .retAddr 14), (10, .aload_n 0, .null), (11, .iload_n 1, .null), (12, .iload_n 2, .null), (13, .iastore, .null), (14, .return_, .null)]
theorem pq_X11_put : xPq RX11 cX11_put tb_X11 pg_X11_put := ⟨tab_X11, xPok_of (by decide +kernel)⟩
theorem cy_X11_put : xCy yX11_put cX11_put 3 none := ⟨xtb_in (i := 669) (by decide +kernel) rfl, xtb_in (i := 153) (by decide +kernel) rfl, by decide +kernel, by decide +kernel⟩
theorem ss_X11_put : Cond.static yX11_put ∈ xtb := xtb_in (i := 668) (by decide +kernel) rfl
theorem ar_X11_put : xar yX11_put 3 := by unfold xar; decide +kernel
def mcX11_put (n_row : Nat) (a_row : Nat → Int32) : xC := [(1000, .inl (0, n_row, .inl a_row))]
def meX11_put (n_row : Nat) (a_row : Nat → Int32) : (Nat → Int32) → xRes := fun r => some (none, mcX11_put n_row r)
def mX11_put (n_row : Nat) (v_k : Int32) (v_value : Int32) (a_row : Nat → Int32) : (Nat → Int32) :=
  if v_k < 0 then
    a_row
  else
    if v_k < (Int32.ofNat n_row) then
      upd a_row v_k.toNatClampNeg v_value
    else
      a_row
set_option maxRecDepth 100000 in
set_option maxHeartbeats 1500000 in
theorem kX11_put (l : Launch) (n_row : Nat) (v_k : Int32) (v_value : Int32) (a_row : Nat → Int32) (hn_row : n_row < 2 ^ 31) : xMet l 0 yX11_put cX11_put 3 none [.ref 1000, .int v_k, .int v_value] (mcX11_put n_row a_row) (meX11_put n_row a_row (mX11_put n_row v_k v_value a_row)) := by
  refine xMet_of cy_X11_put [some (.ref 1000), some (.int v_k), some (.int v_value)] rfl (Nat.le_of_ble_eq_true rfl) (fun X K => ?_)
  refine xR_st K pq_X11_put 1 (pc' := 1) (L' := [some (.ref 1000), some (.int v_k), some (.int v_value)]) (S' := [.int v_k]) (C' := mcX11_put n_row a_row) rfl trivial ?_
  refine xR_i0 (enc := meX11_put n_row a_row) (q1 := 14) (q2 := 4) K pq_X11_put rfl rfl rfl rfl (fun h1 => ?_) (fun h1 => ?_)
  · exact xR_retv K pq_X11_put rfl
  · refine xR_st K pq_X11_put 3 (pc' := 7) (L' := [some (.ref 1000), some (.int v_k), some (.int v_value)]) (S' := [.int (Int32.ofNat n_row), .int v_k]) (C' := mcX11_put n_row a_row) rfl trivial ?_
    refine xR_i2 (enc := meX11_put n_row a_row) (q1 := 10) (q2 := 14) K pq_X11_put rfl rfl rfl rfl (fun h2 => ?_) (fun h2 => ?_)
    · refine xR_st K pq_X11_put 4 (pc' := 14) (L' := [some (.ref 1000), some (.int v_k), some (.int v_value)]) (S' := []) (C' := mcX11_put n_row (upd a_row v_k.toNatClampNeg v_value)) rfl ⟨xin_n h1 h2 (by first | assumption | decide), trivial⟩ ?_
      exact xR_retv K pq_X11_put rfl
    · exact xR_retv K pq_X11_put rfl
def pg_X11_in : xPg := [(0, .iload_n 2, .null), (1, .ifCond .lt 23, .retAddr 24), (4, .iload_n 2, .null), (5, .bipush 40, .int 40), (7, .if_icmp .ge 17, .retAddr 24), (10, .lload_n 0, .null), (11, .iload_n 2, .null), (12, .lushr, .null), (13, .lconst 1, .long 1), (14, .land, .null), (15, .lconst 0, .long 0), (16, .lcmp, .null), (17, .ifCond .eq 7, .retAddr 24), (20, .iconst 1, .int 1), (21, .goto 4, .retAddr 25), (24, .iconst 0, .int 0), (25, .ireturn, .null)]
theorem pq_X11_in : xPq RX11 cX11_in tb_X11 pg_X11_in := ⟨tab_X11, xPok_of (by decide +kernel)⟩
theorem cy_X11_in : xCy yX11_in cX11_in 3 (some .boolean) := ⟨xtb_in (i := 926) (by decide +kernel) rfl, xtb_in (i := 153) (by decide +kernel) rfl, by decide +kernel, by decide +kernel⟩
theorem ss_X11_in : Cond.static yX11_in ∈ xtb := xtb_in (i := 925) (by decide +kernel) rfl
theorem ar_X11_in : xar yX11_in 2 := by unfold xar; decide +kernel
def mcX11_in  : xC := []
def meX11_in  : Bool → xRes := fun r => some (some (.int (xb r)), mcX11_in)
def mX11_in (v_group : Int64) (v_thing : Int32) : Bool :=
  if v_thing < 0 then
    false
  else
    if v_thing < 40 then
      if (((v_group.toUInt64 >>> (v_thing.toInt64.toUInt64 &&& Int64.toUInt64 63)).toInt64) &&& 1) = (0 : Int64) then
        false
      else
        true
    else
      false
set_option maxRecDepth 100000 in
set_option maxHeartbeats 1500000 in
theorem kX11_in (l : Launch) (v_group : Int64) (v_thing : Int32)  : xMet l 0 yX11_in cX11_in 3 (some .boolean) [.long v_group, .int v_thing] (mcX11_in) (meX11_in (mX11_in v_group v_thing)) := by
  refine xMet_of cy_X11_in [some (.long v_group), none, some (.int v_thing)] rfl (Nat.le_of_ble_eq_true rfl) (fun X K => ?_)
  refine xR_st K pq_X11_in 1 (pc' := 1) (L' := [some (.long v_group), none, some (.int v_thing)]) (S' := [.int v_thing]) (C' := mcX11_in) rfl trivial ?_
  refine xR_i0 (enc := meX11_in) (q1 := 24) (q2 := 4) K pq_X11_in rfl rfl rfl rfl (fun h1 => ?_) (fun h1 => ?_)
  · refine xR_st K pq_X11_in 1 (pc' := 25) (L' := [some (.long v_group), none, some (.int v_thing)]) (S' := [.int 0]) (C' := mcX11_in) rfl trivial ?_
    exact xR_retb (b := false) K pq_X11_in rfl
  · refine xR_st K pq_X11_in 2 (pc' := 7) (L' := [some (.long v_group), none, some (.int v_thing)]) (S' := [.int 40, .int v_thing]) (C' := mcX11_in) rfl trivial ?_
    refine xR_i2 (enc := meX11_in) (q1 := 10) (q2 := 24) K pq_X11_in rfl rfl rfl rfl (fun h2 => ?_) (fun h2 => ?_)
    · refine xR_st K pq_X11_in 7 (pc' := 17) (L' := [some (.long v_group), none, some (.int v_thing)]) (S' := [.int (lg_cmp (((v_group.toUInt64 >>> (v_thing.toInt64.toUInt64 &&& Int64.toUInt64 63)).toInt64) &&& 1) (0 : Int64))]) (C' := mcX11_in) rfl trivial ?_
      refine xR_il (enc := meX11_in) (q1 := 24) (q2 := 20) K pq_X11_in rfl rfl rfl rfl (fun h3 => ?_) (fun h3 => ?_)
      · refine xR_st K pq_X11_in 1 (pc' := 25) (L' := [some (.long v_group), none, some (.int v_thing)]) (S' := [.int 0]) (C' := mcX11_in) rfl trivial ?_
        exact xR_retb (b := false) K pq_X11_in rfl
      · refine xR_st K pq_X11_in 2 (pc' := 25) (L' := [some (.long v_group), none, some (.int v_thing)]) (S' := [.int 1]) (C' := mcX11_in) rfl trivial ?_
        exact xR_retb (b := true) K pq_X11_in rfl
    · refine xR_st K pq_X11_in 1 (pc' := 25) (L' := [some (.long v_group), none, some (.int v_thing)]) (S' := [.int 0]) (C' := mcX11_in) rfl trivial ?_
      exact xR_retb (b := false) K pq_X11_in rfl
def pg_X11_bit : xPg := [(0, .iload_n 0, .null), (1, .ifCond .lt 15, .retAddr 16), (4, .iload_n 0, .null), (5, .bipush 40, .int 40), (7, .if_icmp .ge 9, .retAddr 16), (10, .lconst 1, .long 1), (11, .iload_n 0, .null), (12, .lshl, .null), (13, .goto 4, .retAddr 17), (16, .lconst 0, .long 0), (17, .lreturn, .null)]
theorem pq_X11_bit : xPq RX11 cX11_bit tb_X11 pg_X11_bit := ⟨tab_X11, xPok_of (by decide +kernel)⟩
theorem cy_X11_bit : xCy yX11_bit cX11_bit 1 (some .long) := ⟨xtb_in (i := 907) (by decide +kernel) rfl, xtb_in (i := 153) (by decide +kernel) rfl, by decide +kernel, by decide +kernel⟩
theorem ss_X11_bit : Cond.static yX11_bit ∈ xtb := xtb_in (i := 906) (by decide +kernel) rfl
theorem ar_X11_bit : xar yX11_bit 1 := by unfold xar; decide +kernel
def mcX11_bit  : xC := []
def meX11_bit  : Int64 → xRes := fun r => some (some (.long r), mcX11_bit)
def mX11_bit (v_thing : Int32) : Int64 :=
  if v_thing < 0 then
    (0 : Int64)
  else
    if v_thing < 40 then
      1 <<< (v_thing.toInt64 &&& 63)
    else
      (0 : Int64)
set_option maxRecDepth 100000 in
set_option maxHeartbeats 1500000 in
theorem kX11_bit (l : Launch) (v_thing : Int32)  : xMet l 0 yX11_bit cX11_bit 1 (some .long) [.int v_thing] (mcX11_bit) (meX11_bit (mX11_bit v_thing)) := by
  refine xMet_of cy_X11_bit [some (.int v_thing)] rfl (Nat.le_of_ble_eq_true rfl) (fun X K => ?_)
  refine xR_st K pq_X11_bit 1 (pc' := 1) (L' := [some (.int v_thing)]) (S' := [.int v_thing]) (C' := mcX11_bit) rfl trivial ?_
  refine xR_i0 (enc := meX11_bit) (q1 := 16) (q2 := 4) K pq_X11_bit rfl rfl rfl rfl (fun h1 => ?_) (fun h1 => ?_)
  · refine xR_st K pq_X11_bit 1 (pc' := 17) (L' := [some (.int v_thing)]) (S' := [.long 0]) (C' := mcX11_bit) rfl trivial ?_
    exact xR_retl K pq_X11_bit rfl
  · refine xR_st K pq_X11_bit 2 (pc' := 7) (L' := [some (.int v_thing)]) (S' := [.int 40, .int v_thing]) (C' := mcX11_bit) rfl trivial ?_
    refine xR_i2 (enc := meX11_bit) (q1 := 10) (q2 := 16) K pq_X11_bit rfl rfl rfl rfl (fun h2 => ?_) (fun h2 => ?_)
    · refine xR_st K pq_X11_bit 4 (pc' := 17) (L' := [some (.int v_thing)]) (S' := [.long (1 <<< (v_thing.toInt64 &&& 63))]) (C' := mcX11_bit) rfl trivial ?_
      exact xR_retl K pq_X11_bit rfl
    · refine xR_st K pq_X11_bit 1 (pc' := 17) (L' := [some (.int v_thing)]) (S' := [.long 0]) (C' := mcX11_bit) rfl trivial ?_
      exact xR_retl K pq_X11_bit rfl
def pg_X11_maskAt : xPg := [(0, .iload_n 1, .null), (1, .ifCond .lt 15, .retAddr 16), (4, .iload_n 1, .null), (5, .aload_n 0, .null), (6, .arraylength, .null), (7, .if_icmp .ge 9, .retAddr 16), (10, .aload_n 0, .null), (11, .iload_n 1, .null), (12, .laload, .null), (13, .goto 4, .retAddr 17), (16, .lconst 0, .long 0), (17, .lreturn, .null)]
theorem pq_X11_maskAt : xPq RX11 cX11_maskAt tb_X11 pg_X11_maskAt := ⟨tab_X11, xPok_of (by decide +kernel)⟩
theorem cy_X11_maskAt : xCy yX11_maskAt cX11_maskAt 2 (some .long) := ⟨xtb_in (i := 929) (by decide +kernel) rfl, xtb_in (i := 153) (by decide +kernel) rfl, by decide +kernel, by decide +kernel⟩
theorem ss_X11_maskAt : Cond.static yX11_maskAt ∈ xtb := xtb_in (i := 928) (by decide +kernel) rfl
theorem ar_X11_maskAt : xar yX11_maskAt 2 := by unfold xar; decide +kernel
def mcX11_maskAt (n_row : Nat) (a_row : Nat → Int64) : xC := [(1000, .inl (1, n_row, .inr (.inl a_row)))]
def meX11_maskAt (n_row : Nat) (a_row : Nat → Int64) : Int64 → xRes := fun r => some (some (.long r), mcX11_maskAt n_row a_row)
def mX11_maskAt (n_row : Nat) (v_k : Int32) (a_row : Nat → Int64) : Int64 :=
  if v_k < 0 then
    (0 : Int64)
  else
    if v_k < (Int32.ofNat n_row) then
      a_row v_k.toNatClampNeg
    else
      (0 : Int64)
set_option maxRecDepth 100000 in
set_option maxHeartbeats 1500000 in
theorem kX11_maskAt (l : Launch) (n_row : Nat) (v_k : Int32) (a_row : Nat → Int64) (hn_row : n_row < 2 ^ 31) : xMet l 0 yX11_maskAt cX11_maskAt 2 (some .long) [.ref 1000, .int v_k] (mcX11_maskAt n_row a_row) (meX11_maskAt n_row a_row (mX11_maskAt n_row v_k a_row)) := by
  refine xMet_of cy_X11_maskAt [some (.ref 1000), some (.int v_k)] rfl (Nat.le_of_ble_eq_true rfl) (fun X K => ?_)
  refine xR_st K pq_X11_maskAt 1 (pc' := 1) (L' := [some (.ref 1000), some (.int v_k)]) (S' := [.int v_k]) (C' := mcX11_maskAt n_row a_row) rfl trivial ?_
  refine xR_i0 (enc := meX11_maskAt n_row a_row) (q1 := 16) (q2 := 4) K pq_X11_maskAt rfl rfl rfl rfl (fun h1 => ?_) (fun h1 => ?_)
  · refine xR_st K pq_X11_maskAt 1 (pc' := 17) (L' := [some (.ref 1000), some (.int v_k)]) (S' := [.long 0]) (C' := mcX11_maskAt n_row a_row) rfl trivial ?_
    exact xR_retl K pq_X11_maskAt rfl
  · refine xR_st K pq_X11_maskAt 3 (pc' := 7) (L' := [some (.ref 1000), some (.int v_k)]) (S' := [.int (Int32.ofNat n_row), .int v_k]) (C' := mcX11_maskAt n_row a_row) rfl trivial ?_
    refine xR_i2 (enc := meX11_maskAt n_row a_row) (q1 := 10) (q2 := 16) K pq_X11_maskAt rfl rfl rfl rfl (fun h2 => ?_) (fun h2 => ?_)
    · refine xR_st K pq_X11_maskAt 4 (pc' := 17) (L' := [some (.ref 1000), some (.int v_k)]) (S' := [.long (a_row v_k.toNatClampNeg)]) (C' := mcX11_maskAt n_row a_row) rfl ⟨xin_n h1 h2 (by first | assumption | decide), trivial⟩ ?_
      exact xR_retl K pq_X11_maskAt rfl
    · refine xR_st K pq_X11_maskAt 1 (pc' := 17) (L' := [some (.ref 1000), some (.int v_k)]) (S' := [.long 0]) (C' := mcX11_maskAt n_row a_row) rfl trivial ?_
      exact xR_retl K pq_X11_maskAt rfl
def pg_X11_putMask : xPg := [(0, .iload_n 1, .null), (1, .ifCond .lt 13, .retAddr 14), (4, .iload_n 1, .null), (5, .aload_n 0, .null), (6, .arraylength, .null), (7, .if_icmp .ge 7, .retAddr 14), (10, .aload_n 0, .null), (11, .iload_n 1, .null), (12, .lload_n 2, .null), (13, .lastore, .null), (14, .return_, .null)]
theorem pq_X11_putMask : xPq RX11 cX11_putMask tb_X11 pg_X11_putMask := ⟨tab_X11, xPok_of (by decide +kernel)⟩
theorem cy_X11_putMask : xCy yX11_putMask cX11_putMask 4 none := ⟨xtb_in (i := 933) (by decide +kernel) rfl, xtb_in (i := 153) (by decide +kernel) rfl, by decide +kernel, by decide +kernel⟩
theorem ss_X11_putMask : Cond.static yX11_putMask ∈ xtb := xtb_in (i := 932) (by decide +kernel) rfl
theorem ar_X11_putMask : xar yX11_putMask 3 := by unfold xar; decide +kernel
def mcX11_putMask (n_row : Nat) (a_row : Nat → Int64) : xC := [(1000, .inl (1, n_row, .inr (.inl a_row)))]
def meX11_putMask (n_row : Nat) (a_row : Nat → Int64) : (Nat → Int64) → xRes := fun r => some (none, mcX11_putMask n_row r)
def mX11_putMask (n_row : Nat) (v_k : Int32) (v_value : Int64) (a_row : Nat → Int64) : (Nat → Int64) :=
  if v_k < 0 then
    a_row
  else
    if v_k < (Int32.ofNat n_row) then
      vp_updL a_row v_k.toNatClampNeg v_value
    else
      a_row
set_option maxRecDepth 100000 in
set_option maxHeartbeats 1500000 in
theorem kX11_putMask (l : Launch) (n_row : Nat) (v_k : Int32) (v_value : Int64) (a_row : Nat → Int64) (hn_row : n_row < 2 ^ 31) : xMet l 0 yX11_putMask cX11_putMask 4 none [.ref 1000, .int v_k, .long v_value] (mcX11_putMask n_row a_row) (meX11_putMask n_row a_row (mX11_putMask n_row v_k v_value a_row)) := by
  refine xMet_of cy_X11_putMask [some (.ref 1000), some (.int v_k), some (.long v_value), none] rfl (Nat.le_of_ble_eq_true rfl) (fun X K => ?_)
  refine xR_st K pq_X11_putMask 1 (pc' := 1) (L' := [some (.ref 1000), some (.int v_k), some (.long v_value), none]) (S' := [.int v_k]) (C' := mcX11_putMask n_row a_row) rfl trivial ?_
  refine xR_i0 (enc := meX11_putMask n_row a_row) (q1 := 14) (q2 := 4) K pq_X11_putMask rfl rfl rfl rfl (fun h1 => ?_) (fun h1 => ?_)
  · exact xR_retv K pq_X11_putMask rfl
  · refine xR_st K pq_X11_putMask 3 (pc' := 7) (L' := [some (.ref 1000), some (.int v_k), some (.long v_value), none]) (S' := [.int (Int32.ofNat n_row), .int v_k]) (C' := mcX11_putMask n_row a_row) rfl trivial ?_
    refine xR_i2 (enc := meX11_putMask n_row a_row) (q1 := 10) (q2 := 14) K pq_X11_putMask rfl rfl rfl rfl (fun h2 => ?_) (fun h2 => ?_)
    · refine xR_st K pq_X11_putMask 4 (pc' := 14) (L' := [some (.ref 1000), some (.int v_k), some (.long v_value), none]) (S' := []) (C' := mcX11_putMask n_row (vp_updL a_row v_k.toNatClampNeg v_value)) rfl ⟨xin_n h1 h2 (by first | assumption | decide), trivial⟩ ?_
      exact xR_retv K pq_X11_putMask rfl
    · exact xR_retv K pq_X11_putMask rfl
def pg_X11_lowest : xPg := [(0, .lload_n 0, .null), (1, .lload_n 0, .null), (2, .lneg, .null), (3, .land, .null), (4, .lconst 1, .long 1), (5, .lsub, .null), (6, .invokestatic 138, .null), (9, .ireturn, .null)]
theorem pq_X11_lowest : xPq RX11 cX11_lowest tb_X11 pg_X11_lowest := ⟨tab_X11, xPok_of (by decide +kernel)⟩
theorem cy_X11_lowest : xCy yX11_lowest cX11_lowest 2 (some .int) := ⟨xtb_in (i := 974) (by decide +kernel) rfl, xtb_in (i := 153) (by decide +kernel) rfl, by decide +kernel, by decide +kernel⟩
theorem ss_X11_lowest : Cond.static yX11_lowest ∈ xtb := xtb_in (i := 973) (by decide +kernel) rfl
theorem ar_X11_lowest : xar yX11_lowest 1 := by unfold xar; decide +kernel
def mcX11_lowest  : xC := []
def meX11_lowest  : Int32 → xRes := fun r => some (some (.int r), mcX11_lowest)
def mX11_lowest (v_group : Int64) : Int32 :=
  mJ13_bitCount_95d88 ((v_group &&& (-v_group)) - 1)
set_option maxRecDepth 100000 in
set_option maxHeartbeats 1500000 in
theorem kX11_lowest (l : Launch) (v_group : Int64)  : xMet l 1 yX11_lowest cX11_lowest 2 (some .int) [.long v_group] (mcX11_lowest) (meX11_lowest (mX11_lowest v_group)) := by
  refine xMet_of cy_X11_lowest [some (.long v_group), none] rfl (Nat.le_of_ble_eq_true rfl) (fun X K => ?_)
  refine xR_st K pq_X11_lowest 6 (pc' := 6) (L' := [some (.long v_group), none]) (S' := [.long ((v_group &&& (-v_group)) - 1)]) (C' := mcX11_lowest) rfl trivial ?_
  refine xR_callS3 K pq_X11_lowest rfl lk_X11_138 cy_J13_bitCount_95d88 ss_J13_bitCount_95d88 ar_J13_bitCount_95d88 (rest := []) (kJ13_bitCount_95d88 l ((v_group &&& (-v_group)) - 1)) (by decide) (by decide) (S2 := [.int (mJ13_bitCount_95d88 ((v_group &&& (-v_group)) - 1))]) (C2 := mcX11_lowest) id [] rfl rfl (Nat.le_of_ble_eq_true rfl) rfl (by decide) rfl rfl rfl ?_
  exact xR_ret K pq_X11_lowest rfl
def pg_X11_nth : xPg := [(0, .lload_n 0, .null), (1, .lstore_n 3, .null), (2, .iconst 0, .int 0), (3, .istore 5, .null), (5, .iload 5, .null), (7, .iload_n 2, .null), (8, .if_icmp .ge 22, .retAddr 30), (11, .iload 5, .null), (13, .bipush 40, .int 40), (15, .if_icmp .ge 15, .retAddr 30), (18, .lload_n 3, .null), (19, .lload_n 3, .null), (20, .lconst 1, .long 1), (21, .lsub, .null), (22, .land, .null), (23, .lstore_n 3, .null), (24, .iinc 5 1, .int 1), (27, .goto (-22), .retAddr 5), (30, .lload_n 3, .null), (31, .lconst 0, .long 0), (32, .lcmp, .null), (33, .ifCond .ne 7, .retAddr 40), (36, .iconst (-1), .int (-1)), (37, .goto 7, .retAddr 44), (40, .lload_n 3, .null), (41, .invokestatic 385, .null), (44, .ireturn, .null)]
theorem pq_X11_nth : xPq RX11 cX11_nth tb_X11 pg_X11_nth := ⟨tab_X11, xPok_of (by decide +kernel)⟩
theorem cy_X11_nth : xCy yX11_nth cX11_nth 6 (some .int) := ⟨xtb_in (i := 1361) (by decide +kernel) rfl, xtb_in (i := 153) (by decide +kernel) rfl, by decide +kernel, by decide +kernel⟩
theorem ss_X11_nth : Cond.static yX11_nth ∈ xtb := xtb_in (i := 1360) (by decide +kernel) rfl
theorem ar_X11_nth : xar yX11_nth 2 := by unfold xar; decide +kernel
def mcX11_nth  : xC := []
def meX11_nth  : Int32 → xRes := fun r => some (some (.int r), mcX11_nth)
def mX11_nth_30   (x3_30 : Int64) : Int32 :=
  if x3_30 = (0 : Int64) then
    ((-1) : Int32)
  else
    mX11_lowest x3_30
def mX11_nth_5 (v_n : Int32)  : Nat → Nat → Int64 → Int32
  | 0, i5, x3_5 => if (nI i5) < v_n then
      mX11_nth_30 x3_5
    else
      mX11_nth_30 x3_5
  | k5 + 1, i5, x3_5 =>
    if (nI i5) < v_n then
      mX11_nth_5 v_n k5 (i5 + 1) (x3_5 &&& (x3_5 - 1))
    else
      mX11_nth_30 x3_5
def mX11_nth (v_group : Int64) (v_n : Int32) : Int32 :=
  mX11_nth_5 v_n 40 0 v_group
set_option maxRecDepth 100000 in
set_option maxHeartbeats 1500000 in
theorem kX11_nth (l : Launch) (v_group : Int64) (v_n : Int32)  : xMet l 2 yX11_nth cX11_nth 6 (some .int) [.long v_group, .int v_n] (mcX11_nth) (meX11_nth (mX11_nth v_group v_n)) := by
  refine xMet_of cy_X11_nth [some (.long v_group), none, some (.int v_n), none, none, none] rfl (Nat.le_of_ble_eq_true rfl) (fun X K => ?_)
  have J30 : ∀ (x3_30 : Int64), xR X (meX11_nth (mX11_nth_30 x3_30)) 30 [none, none, none, some (.long x3_30), none, none] [] (mcX11_nth) := by
    intro x3_30
    refine xR_st K pq_X11_nth 3 (pc' := 33) (L' := [none, none, none, some (.long x3_30), none, none]) (S' := [.int (lg_cmp x3_30 (0 : Int64))]) (C' := mcX11_nth) rfl trivial ?_
    refine xR_il (enc := meX11_nth) (q1 := 36) (q2 := 40) K pq_X11_nth rfl rfl rfl rfl (fun h3 => ?_) (fun h3 => ?_)
    · refine xR_st K pq_X11_nth 2 (pc' := 44) (L' := [none, none, none, some (.long x3_30), none, none]) (S' := [.int (-1)]) (C' := mcX11_nth) rfl trivial ?_
      exact xR_ret K pq_X11_nth rfl
    · refine xR_st K pq_X11_nth 1 (pc' := 41) (L' := [none, none, none, some (.long x3_30), none, none]) (S' := [.long x3_30]) (C' := mcX11_nth) rfl trivial ?_
      refine xR_callS3 K pq_X11_nth rfl lk_X11_385 cy_X11_lowest ss_X11_lowest ar_X11_lowest (rest := []) (kX11_lowest l x3_30) (by decide) (by decide) (S2 := [.int (mX11_lowest x3_30)]) (C2 := mcX11_nth) id [] rfl rfl (Nat.le_of_ble_eq_true rfl) rfl (by decide) rfl rfl rfl ?_
      exact xR_ret K pq_X11_nth rfl
  have J5 : ∀ (k5 i5 : Nat) (x3_5 : Int64) (hik5 : i5 + k5 = 40), xR X (meX11_nth (mX11_nth_5 v_n k5 i5 x3_5)) 5 [none, none, some (.int v_n), some (.long x3_5), none, some (.int (nI i5))] [] (mcX11_nth) := by
    intro k5
    induction k5 with
    | zero =>
      intro i5 x3_5 hik5
      rw [mX11_nth_5.eq_1]
      refine xR_st K pq_X11_nth 2 (pc' := 8) (L' := [none, none, some (.int v_n), some (.long x3_5), none, some (.int (nI i5))]) (S' := [.int v_n, .int (nI i5)]) (C' := mcX11_nth) rfl trivial ?_
      refine xR_i2 (enc := meX11_nth) (q1 := 11) (q2 := 30) K pq_X11_nth rfl rfl rfl rfl (fun h2 => ?_) (fun h2 => ?_)
      · refine xR_st K pq_X11_nth 2 (pc' := 15) (L' := [none, none, some (.int v_n), some (.long x3_5), none, some (.int (nI i5))]) (S' := [.int 40, .int (nI i5)]) (C' := mcX11_nth) rfl trivial ?_
        refine xR_if2 K pq_X11_nth rfl ⟨rfl, rfl⟩ (fun _ => ?_) (fun hx => absurd hx (xlt_no 40 hik5 (by first | assumption | decide)))
        exact xR_less2 (J30 _) ⟨rfl, trivial⟩
      · exact xR_less2 (J30 _) ⟨rfl, trivial⟩
    | succ k5 ih =>
      intro i5 x3_5 hik5
      rw [mX11_nth_5.eq_2]
      refine xR_st K pq_X11_nth 2 (pc' := 8) (L' := [none, none, some (.int v_n), some (.long x3_5), none, some (.int (nI i5))]) (S' := [.int v_n, .int (nI i5)]) (C' := mcX11_nth) rfl trivial ?_
      refine xR_i2 (enc := meX11_nth) (q1 := 11) (q2 := 30) K pq_X11_nth rfl rfl rfl rfl (fun h1 => ?_) (fun h1 => ?_)
      · refine xR_st K pq_X11_nth 2 (pc' := 15) (L' := [none, none, some (.int v_n), some (.long x3_5), none, some (.int (nI i5))]) (S' := [.int 40, .int (nI i5)]) (C' := mcX11_nth) rfl trivial ?_
        refine xR_if2 K pq_X11_nth rfl ⟨rfl, rfl⟩ (fun hx => absurd (xlt_yes 40 hik5 (by first | assumption | decide)) hx) (fun _ => ?_)
        refine xR_st K pq_X11_nth 8 (pc' := 5) (L' := [none, none, some (.int v_n), some (.long (x3_5 &&& (x3_5 - 1))), none, some (.int ((nI i5) + 1))]) (S' := []) (C' := mcX11_nth) rfl trivial ?_
        exact xR_less2 (ih (i5 + 1) _ (by omega)) ⟨rfl, rfl, xcnt i5, trivial⟩
      · exact xR_less2 (J30 _) ⟨rfl, trivial⟩
  refine xR_st K pq_X11_nth 4 (pc' := 5) (L' := [some (.long v_group), none, some (.int v_n), some (.long v_group), none, some (.int 0)]) (S' := []) (C' := mcX11_nth) rfl trivial ?_
  exact xR_less2 (J5 _ _ _ (by first | rfl | omega)) ⟨rfl, rfl, rfl, trivial⟩
def pg_X10_clear : xPg := [(0, .aload_n 0, .null), (1, .getfield 9, .retAddr 1000), (4, .iconst 0, .int 0), (5, .invokestatic 40, .null), (8, .aload_n 0, .null), (9, .getfield 15, .retAddr 1001), (12, .iconst 0, .int 0), (13, .invokestatic 40, .null), (16, .aload_n 0, .null), (17, .getfield 27, .retAddr 1005), (20, .iconst (-1), .int (-1)), (21, .invokestatic 40, .null), (24, .aload_n 0, .null), (25, .getfield 30, .retAddr 1006), (28, .iconst (-1), .int (-1)), (29, .invokestatic 40, .null), (32, .aload_n 0, .null), (33, .getfield 33, .retAddr 1007), (36, .iconst 0, .int 0), (37, .invokestatic 40, .null), (40, .aload_n 0, .null), (41, .getfield 36, .retAddr 1008), (44, .lconst 0, .long 0), (45, .invokestatic 46, .null), (48, .aload_n 0, .null), (49, .lconst 0, .long 0), (50, .putfield 49, .retAddr 1009), (53, .aload_n 0, .null), (54, .lconst 0, .long 0), (55, .putfield 53, .retAddr 1010), (58, .aload_n 0, .null), (59, .iconst 0, .int 0), (60, .putfield 56, .retAddr 1011), (63, .aload_n 0, .null), (64, .iconst 0, .int 0), (65, .putfield 60, .retAddr 1012), (68, .return_, .null)]
theorem pq_X10_clear : xPq RX10 cX10_clear tb_X10 pg_X10_clear := ⟨tab_X10, xPok_of (by decide +kernel)⟩
theorem cy_X10_clear : xCy yX10_clear cX10_clear 1 none := ⟨xtb_in (i := 891) (by decide +kernel) rfl, xtb_in (i := 156) (by decide +kernel) rfl, by decide +kernel, by decide +kernel⟩
theorem si_X10_clear : Cond.instanceMethod yX10_clear ∈ xtb ∧ Cond.selects yX10_clear.cls yX10_clear yX10_clear ∈ xtb := ⟨xtb_in (i := 889) (by decide +kernel) rfl, xtb_in (i := 890) (by decide +kernel) rfl⟩
theorem ar_X10_clear : xar yX10_clear 0 := by unfold xar; decide +kernel
def mcX10_clear (f_there : Int64) (f_marked : Int64) (f_trains : Int32) (f_step : Int32) (a_size : Nat → Int32) (a_age : Nat → Int32) (a_links : Nat → Int32) (a_roots : Nat → Int32) (a_cars : Nat → Int32) (a_from : Nat → Int64) : xC := [(0, .inr (10, [.ref 1, .ref 2, .ref 3, .ref 4, .ref 5, .ref 6, .ref 7, .ref 8, .ref 9, .long f_there, .long f_marked, .int f_trains, .int f_step])), (1, .inl (0, 40, .inl a_size)), (2, .inl (0, 40, .inl a_age)), (6, .inl (0, 160, .inl a_links)), (7, .inl (0, 8, .inl a_roots)), (8, .inl (0, 42, .inl a_cars)), (9, .inl (1, 40, .inr (.inl a_from)))]
def meX10_clear (f_there : Int64) (f_marked : Int64) (f_trains : Int32) (f_step : Int32) (a_size : Nat → Int32) (a_age : Nat → Int32) (a_links : Nat → Int32) (a_roots : Nat → Int32) (a_cars : Nat → Int32) (a_from : Nat → Int64) : Int64 × Int64 × Int32 × Int32 × (Nat → Int32) × (Nat → Int32) × (Nat → Int32) × (Nat → Int32) × (Nat → Int32) × (Nat → Int64) → xRes := fun r => some (none, mcX10_clear r.1 r.2.1 r.2.2.1 r.2.2.2.1 r.2.2.2.2.1 r.2.2.2.2.2.1 r.2.2.2.2.2.2.1 r.2.2.2.2.2.2.2.1 r.2.2.2.2.2.2.2.2.1 r.2.2.2.2.2.2.2.2.2)
def mX10_clear (a_size : Nat → Int32) (a_age : Nat → Int32) (a_links : Nat → Int32) (a_roots : Nat → Int32) (a_cars : Nat → Int32) (a_from : Nat → Int64) : Int64 × Int64 × Int32 × Int32 × (Nat → Int32) × (Nat → Int32) × (Nat → Int32) × (Nat → Int32) × (Nat → Int32) × (Nat → Int64) :=
  xlet (mJ7_fill_53178 40 (0 : Int32) a_size) (fun q1 =>
    xlet (mJ7_fill_53178 40 (0 : Int32) a_age) (fun q2 =>
      xlet (mJ7_fill_53178 160 ((-1) : Int32) a_links) (fun q3 =>
        xlet (mJ7_fill_53178 8 ((-1) : Int32) a_roots) (fun q4 =>
          xlet (mJ7_fill_53178 42 (0 : Int32) a_cars) (fun q5 =>
            xlet (mJ7_fill_d0a16 40 (0 : Int64) a_from) (fun q6 =>
              ((0 : Int64), (0 : Int64), (0 : Int32), (0 : Int32), q1, q2, q3, q4, q5, q6)))))))
set_option maxRecDepth 100000 in
set_option maxHeartbeats 1500000 in
theorem kX10_clear (l : Launch) (f_there : Int64) (f_marked : Int64) (f_trains : Int32) (f_step : Int32) (a_size : Nat → Int32) (a_age : Nat → Int32) (a_links : Nat → Int32) (a_roots : Nat → Int32) (a_cars : Nat → Int32) (a_from : Nat → Int64)  : xMet l 1 yX10_clear cX10_clear 1 none [.ref 0] (mcX10_clear f_there f_marked f_trains f_step a_size a_age a_links a_roots a_cars a_from) (meX10_clear f_there f_marked f_trains f_step a_size a_age a_links a_roots a_cars a_from (mX10_clear a_size a_age a_links a_roots a_cars a_from)) := by
  refine xMet_of cy_X10_clear [some (.ref 0)] rfl (Nat.le_of_ble_eq_true rfl) (fun X K => ?_)
  refine xR_st K pq_X10_clear 3 (pc' := 5) (L' := [some (.ref 0)]) (S' := [.int 0, .ref 1]) (C' := mcX10_clear f_there f_marked f_trains f_step a_size a_age a_links a_roots a_cars a_from) rfl trivial ?_
  refine xR_let (enc := meX10_clear f_there f_marked f_trains f_step a_size a_age a_links a_roots a_cars a_from) (fun q1 hq1 => ?_)
  have hMq1 := kJ7_fill_53178 l 40 (0 : Int32) a_size (by first | assumption | decide | omega)
  rw [← hq1] at hMq1
  refine xR_callS3 K pq_X10_clear rfl lk_X10_40 cy_J7_fill_53178 ss_J7_fill_53178 ar_J7_fill_53178 (rest := []) hMq1 (by decide) (by decide) (S2 := []) (C2 := mcX10_clear f_there f_marked f_trains f_step q1 a_age a_links a_roots a_cars a_from) (fun k => k - 1000 + 1) [1] rfl rfl (Nat.le_of_ble_eq_true rfl) rfl (by decide) rfl rfl rfl ?_
  refine xR_st K pq_X10_clear 3 (pc' := 13) (L' := [some (.ref 0)]) (S' := [.int 0, .ref 2]) (C' := mcX10_clear f_there f_marked f_trains f_step q1 a_age a_links a_roots a_cars a_from) rfl trivial ?_
  refine xR_let (enc := meX10_clear f_there f_marked f_trains f_step a_size a_age a_links a_roots a_cars a_from) (fun q2 hq2 => ?_)
  have hMq2 := kJ7_fill_53178 l 40 (0 : Int32) a_age (by first | assumption | decide | omega)
  rw [← hq2] at hMq2
  refine xR_callS3 K pq_X10_clear rfl lk_X10_40 cy_J7_fill_53178 ss_J7_fill_53178 ar_J7_fill_53178 (rest := []) hMq2 (by decide) (by decide) (S2 := []) (C2 := mcX10_clear f_there f_marked f_trains f_step q1 q2 a_links a_roots a_cars a_from) (fun k => k - 1000 + 2) [2] rfl rfl (Nat.le_of_ble_eq_true rfl) rfl (by decide) rfl rfl rfl ?_
  refine xR_st K pq_X10_clear 3 (pc' := 21) (L' := [some (.ref 0)]) (S' := [.int (-1), .ref 6]) (C' := mcX10_clear f_there f_marked f_trains f_step q1 q2 a_links a_roots a_cars a_from) rfl trivial ?_
  refine xR_let (enc := meX10_clear f_there f_marked f_trains f_step a_size a_age a_links a_roots a_cars a_from) (fun q3 hq3 => ?_)
  have hMq3 := kJ7_fill_53178 l 160 ((-1) : Int32) a_links (by first | assumption | decide | omega)
  rw [← hq3] at hMq3
  refine xR_callS3 K pq_X10_clear rfl lk_X10_40 cy_J7_fill_53178 ss_J7_fill_53178 ar_J7_fill_53178 (rest := []) hMq3 (by decide) (by decide) (S2 := []) (C2 := mcX10_clear f_there f_marked f_trains f_step q1 q2 q3 a_roots a_cars a_from) (fun k => k - 1000 + 6) [3] rfl rfl (Nat.le_of_ble_eq_true rfl) rfl (by decide) rfl rfl rfl ?_
  refine xR_st K pq_X10_clear 3 (pc' := 29) (L' := [some (.ref 0)]) (S' := [.int (-1), .ref 7]) (C' := mcX10_clear f_there f_marked f_trains f_step q1 q2 q3 a_roots a_cars a_from) rfl trivial ?_
  refine xR_let (enc := meX10_clear f_there f_marked f_trains f_step a_size a_age a_links a_roots a_cars a_from) (fun q4 hq4 => ?_)
  have hMq4 := kJ7_fill_53178 l 8 ((-1) : Int32) a_roots (by first | assumption | decide | omega)
  rw [← hq4] at hMq4
  refine xR_callS3 K pq_X10_clear rfl lk_X10_40 cy_J7_fill_53178 ss_J7_fill_53178 ar_J7_fill_53178 (rest := []) hMq4 (by decide) (by decide) (S2 := []) (C2 := mcX10_clear f_there f_marked f_trains f_step q1 q2 q3 q4 a_cars a_from) (fun k => k - 1000 + 7) [4] rfl rfl (Nat.le_of_ble_eq_true rfl) rfl (by decide) rfl rfl rfl ?_
  refine xR_st K pq_X10_clear 3 (pc' := 37) (L' := [some (.ref 0)]) (S' := [.int 0, .ref 8]) (C' := mcX10_clear f_there f_marked f_trains f_step q1 q2 q3 q4 a_cars a_from) rfl trivial ?_
  refine xR_let (enc := meX10_clear f_there f_marked f_trains f_step a_size a_age a_links a_roots a_cars a_from) (fun q5 hq5 => ?_)
  have hMq5 := kJ7_fill_53178 l 42 (0 : Int32) a_cars (by first | assumption | decide | omega)
  rw [← hq5] at hMq5
  refine xR_callS3 K pq_X10_clear rfl lk_X10_40 cy_J7_fill_53178 ss_J7_fill_53178 ar_J7_fill_53178 (rest := []) hMq5 (by decide) (by decide) (S2 := []) (C2 := mcX10_clear f_there f_marked f_trains f_step q1 q2 q3 q4 q5 a_from) (fun k => k - 1000 + 8) [5] rfl rfl (Nat.le_of_ble_eq_true rfl) rfl (by decide) rfl rfl rfl ?_
  refine xR_st K pq_X10_clear 3 (pc' := 45) (L' := [some (.ref 0)]) (S' := [.long 0, .ref 9]) (C' := mcX10_clear f_there f_marked f_trains f_step q1 q2 q3 q4 q5 a_from) rfl trivial ?_
  refine xR_let (enc := meX10_clear f_there f_marked f_trains f_step a_size a_age a_links a_roots a_cars a_from) (fun q6 hq6 => ?_)
  have hMq6 := kJ7_fill_d0a16 l 40 (0 : Int64) a_from (by first | assumption | decide | omega)
  rw [← hq6] at hMq6
  refine xR_callS3 K pq_X10_clear rfl lk_X10_46 cy_J7_fill_d0a16 ss_J7_fill_d0a16 ar_J7_fill_d0a16 (rest := []) hMq6 (by decide) (by decide) (S2 := []) (C2 := mcX10_clear f_there f_marked f_trains f_step q1 q2 q3 q4 q5 q6) (fun k => k - 1000 + 9) [6] rfl rfl (Nat.le_of_ble_eq_true rfl) rfl (by decide) rfl rfl rfl ?_
  refine xR_st K pq_X10_clear 12 (pc' := 68) (L' := [some (.ref 0)]) (S' := []) (C' := mcX10_clear (0 : Int64) (0 : Int64) (0 : Int32) (0 : Int32) q1 q2 q3 q4 q5 q6) rfl ⟨trivial, trivial, trivial, trivial, trivial⟩ ?_
  exact xR_retv K pq_X10_clear rfl
def pg_X10_copy : xPg := [(0, .aload_n 1, .null), (1, .getfield 9, .retAddr 1000), (4, .iconst 0, .int 0), (5, .aload_n 0, .null), (6, .getfield 9, .retAddr 1000), (9, .iconst 0, .int 0), (10, .bipush 40, .int 40), (12, .invokestatic 63, .null), (15, .aload_n 1, .null), (16, .getfield 15, .retAddr 1001), (19, .iconst 0, .int 0), (20, .aload_n 0, .null), (21, .getfield 15, .retAddr 1001), (24, .iconst 0, .int 0), (25, .bipush 40, .int 40), (27, .invokestatic 63, .null), (30, .aload_n 1, .null), (31, .getfield 18, .retAddr 1002), (34, .iconst 0, .int 0), (35, .aload_n 0, .null), (36, .getfield 18, .retAddr 1002), (39, .iconst 0, .int 0), (40, .bipush 40, .int 40), (42, .invokestatic 63, .null), (45, .aload_n 1, .null), (46, .getfield 21, .retAddr 1003), (49, .iconst 0, .int 0), (50, .aload_n 0, .null), (51, .getfield 21, .retAddr 1003), (54, .iconst 0, .int 0), (55, .bipush 40, .int 40), (57, .invokestatic 63, .null), (60, .aload_n 1, .null), (61, .getfield 24, .retAddr 1004), (64, .iconst 0, .int 0), (65, .aload_n 0, .null), (66, .getfield 24, .retAddr 1004), (69, .iconst 0, .int 0), (70, .bipush 40, .int 40), (72, .invokestatic 63, .null), (75, .aload_n 1, .null), (76, .getfield 27, .retAddr 1005), (79, .iconst 0, .int 0), (80, .aload_n 0, .null), (81, .getfield 27, .retAddr 1005), (84, .iconst 0, .int 0), (85, .sipush 160, .int 160), (88, .invokestatic 63, .null), (91, .aload_n 1, .null), (92, .getfield 30, .retAddr 1006), (95, .iconst 0, .int 0), (96, .aload_n 0, .null), (97, .getfield 30, .retAddr 1006), (100, .iconst 0, .int 0), (101, .bipush 8, .int 8), (103, .invokestatic 63, .null), (106, .aload_n 1, .null), (107, .getfield 33, .retAddr 1007), (110, .iconst 0, .int 0), (111, .aload_n 0, .null), (112, .getfield 33, .retAddr 1007), (115, .iconst 0, .int 0), (116, .bipush 42, .int 42), (118, .invokestatic 63, .null), (121, .aload_n 1, .null), (122, .getfield 36, .retAddr 1008), (125, .iconst 0, .int 0), (126, .aload_n 0, .null), (127, .getfield 36, .retAddr 1008), (130, .iconst 0, .int 0), (131, .bipush 40, .int 40), (133, .invokestatic 63, .null), (136, .aload_n 0, .null), (137, .aload_n 1, .null), (138, .getfield 49, .retAddr 1009), (141, .putfield 49, .retAddr 1009), (144, .aload_n 0, .null), (145, .aload_n 1, .null), (146, .getfield 53, .retAddr 1010), (149, .putfield 53, .retAddr 1010), (152, .aload_n 0, .null), (153, .aload_n 1, .null), (154, .getfield 56, .retAddr 1011), (157, .putfield 56, .retAddr 1011), (160, .aload_n 0, .null), (161, .aload_n 1, .null), (162, .getfield 60, .retAddr 1012), (165, .putfield 60, .retAddr 1012), (168, .return_, .null)]
theorem pq_X10_copy : xPq RX10 cX10_copy tb_X10 pg_X10_copy := ⟨tab_X10, xPok_of (by decide +kernel)⟩
theorem cy_X10_copy : xCy yX10_copy cX10_copy 2 none := ⟨xtb_in (i := 1091) (by decide +kernel) rfl, xtb_in (i := 156) (by decide +kernel) rfl, by decide +kernel, by decide +kernel⟩
theorem si_X10_copy : Cond.instanceMethod yX10_copy ∈ xtb ∧ Cond.selects yX10_copy.cls yX10_copy yX10_copy ∈ xtb := ⟨xtb_in (i := 1089) (by decide +kernel) rfl, xtb_in (i := 1090) (by decide +kernel) rfl⟩
theorem ar_X10_copy : xar yX10_copy 1 := by unfold xar; decide +kernel
def mcX10_copy (f_there : Int64) (f_marked : Int64) (f_trains : Int32) (f_step : Int32) (a_size : Nat → Int32) (a_age : Nat → Int32) (a_train : Nat → Int32) (a_car : Nat → Int32) (a_place : Nat → Int32) (a_links : Nat → Int32) (a_roots : Nat → Int32) (a_cars : Nat → Int32) (a_from : Nat → Int64) (other_f_there : Int64) (other_f_marked : Int64) (other_f_trains : Int32) (other_f_step : Int32) (other_a_size : Nat → Int32) (other_a_age : Nat → Int32) (other_a_train : Nat → Int32) (other_a_car : Nat → Int32) (other_a_place : Nat → Int32) (other_a_links : Nat → Int32) (other_a_roots : Nat → Int32) (other_a_cars : Nat → Int32) (other_a_from : Nat → Int64) : xC := [(0, .inr (10, [.ref 1, .ref 2, .ref 3, .ref 4, .ref 5, .ref 6, .ref 7, .ref 8, .ref 9, .long f_there, .long f_marked, .int f_trains, .int f_step])), (1, .inl (0, 40, .inl a_size)), (2, .inl (0, 40, .inl a_age)), (3, .inl (0, 40, .inl a_train)), (4, .inl (0, 40, .inl a_car)), (5, .inl (0, 40, .inl a_place)), (6, .inl (0, 160, .inl a_links)), (7, .inl (0, 8, .inl a_roots)), (8, .inl (0, 42, .inl a_cars)), (9, .inl (1, 40, .inr (.inl a_from))), (1000, .inr (10, [.ref 1001, .ref 1002, .ref 1003, .ref 1004, .ref 1005, .ref 1006, .ref 1007, .ref 1008, .ref 1009, .long other_f_there, .long other_f_marked, .int other_f_trains, .int other_f_step])), (1001, .inl (0, 40, .inl other_a_size)), (1002, .inl (0, 40, .inl other_a_age)), (1003, .inl (0, 40, .inl other_a_train)), (1004, .inl (0, 40, .inl other_a_car)), (1005, .inl (0, 40, .inl other_a_place)), (1006, .inl (0, 160, .inl other_a_links)), (1007, .inl (0, 8, .inl other_a_roots)), (1008, .inl (0, 42, .inl other_a_cars)), (1009, .inl (1, 40, .inr (.inl other_a_from)))]
def meX10_copy (f_there : Int64) (f_marked : Int64) (f_trains : Int32) (f_step : Int32) (a_size : Nat → Int32) (a_age : Nat → Int32) (a_train : Nat → Int32) (a_car : Nat → Int32) (a_place : Nat → Int32) (a_links : Nat → Int32) (a_roots : Nat → Int32) (a_cars : Nat → Int32) (a_from : Nat → Int64) (other_f_there : Int64) (other_f_marked : Int64) (other_f_trains : Int32) (other_f_step : Int32) (other_a_size : Nat → Int32) (other_a_age : Nat → Int32) (other_a_train : Nat → Int32) (other_a_car : Nat → Int32) (other_a_place : Nat → Int32) (other_a_links : Nat → Int32) (other_a_roots : Nat → Int32) (other_a_cars : Nat → Int32) (other_a_from : Nat → Int64) : Int64 × Int64 × Int32 × Int32 × (Nat → Int32) × (Nat → Int32) × (Nat → Int32) × (Nat → Int32) × (Nat → Int32) × (Nat → Int32) × (Nat → Int32) × (Nat → Int32) × (Nat → Int64) → xRes := fun r => some (none, mcX10_copy r.1 r.2.1 r.2.2.1 r.2.2.2.1 r.2.2.2.2.1 r.2.2.2.2.2.1 r.2.2.2.2.2.2.1 r.2.2.2.2.2.2.2.1 r.2.2.2.2.2.2.2.2.1 r.2.2.2.2.2.2.2.2.2.1 r.2.2.2.2.2.2.2.2.2.2.1 r.2.2.2.2.2.2.2.2.2.2.2.1 r.2.2.2.2.2.2.2.2.2.2.2.2 other_f_there other_f_marked other_f_trains other_f_step other_a_size other_a_age other_a_train other_a_car other_a_place other_a_links other_a_roots other_a_cars other_a_from)
def mX10_copy (a_size : Nat → Int32) (a_age : Nat → Int32) (a_train : Nat → Int32) (a_car : Nat → Int32) (a_place : Nat → Int32) (a_links : Nat → Int32) (a_roots : Nat → Int32) (a_cars : Nat → Int32) (a_from : Nat → Int64) (other_f_there : Int64) (other_f_marked : Int64) (other_f_trains : Int32) (other_f_step : Int32) (other_a_size : Nat → Int32) (other_a_age : Nat → Int32) (other_a_train : Nat → Int32) (other_a_car : Nat → Int32) (other_a_place : Nat → Int32) (other_a_links : Nat → Int32) (other_a_roots : Nat → Int32) (other_a_cars : Nat → Int32) (other_a_from : Nat → Int64) : Int64 × Int64 × Int32 × Int32 × (Nat → Int32) × (Nat → Int32) × (Nat → Int32) × (Nat → Int32) × (Nat → Int32) × (Nat → Int32) × (Nat → Int32) × (Nat → Int32) × (Nat → Int64) :=
  (other_f_there, other_f_marked, other_f_trains, other_f_step, va_cpy other_a_size a_size 0 0 40, va_cpy other_a_age a_age 0 0 40, va_cpy other_a_train a_train 0 0 40, va_cpy other_a_car a_car 0 0 40, va_cpy other_a_place a_place 0 0 40, va_cpy other_a_links a_links 0 0 160, va_cpy other_a_roots a_roots 0 0 8, va_cpy other_a_cars a_cars 0 0 42, va_cpy other_a_from a_from 0 0 40)
set_option maxRecDepth 100000 in
set_option maxHeartbeats 1500000 in
theorem kX10_copy (l : Launch) (f_there : Int64) (f_marked : Int64) (f_trains : Int32) (f_step : Int32) (a_size : Nat → Int32) (a_age : Nat → Int32) (a_train : Nat → Int32) (a_car : Nat → Int32) (a_place : Nat → Int32) (a_links : Nat → Int32) (a_roots : Nat → Int32) (a_cars : Nat → Int32) (a_from : Nat → Int64) (other_f_there : Int64) (other_f_marked : Int64) (other_f_trains : Int32) (other_f_step : Int32) (other_a_size : Nat → Int32) (other_a_age : Nat → Int32) (other_a_train : Nat → Int32) (other_a_car : Nat → Int32) (other_a_place : Nat → Int32) (other_a_links : Nat → Int32) (other_a_roots : Nat → Int32) (other_a_cars : Nat → Int32) (other_a_from : Nat → Int64)  : xMet l 1 yX10_copy cX10_copy 2 none [.ref 0, .ref 1000] (mcX10_copy f_there f_marked f_trains f_step a_size a_age a_train a_car a_place a_links a_roots a_cars a_from other_f_there other_f_marked other_f_trains other_f_step other_a_size other_a_age other_a_train other_a_car other_a_place other_a_links other_a_roots other_a_cars other_a_from) (meX10_copy f_there f_marked f_trains f_step a_size a_age a_train a_car a_place a_links a_roots a_cars a_from other_f_there other_f_marked other_f_trains other_f_step other_a_size other_a_age other_a_train other_a_car other_a_place other_a_links other_a_roots other_a_cars other_a_from (mX10_copy a_size a_age a_train a_car a_place a_links a_roots a_cars a_from other_f_there other_f_marked other_f_trains other_f_step other_a_size other_a_age other_a_train other_a_car other_a_place other_a_links other_a_roots other_a_cars other_a_from)) := by
  refine xMet_of cy_X10_copy [some (.ref 0), some (.ref 1000)] rfl (Nat.le_of_ble_eq_true rfl) (fun X K => ?_)
  refine xR_st K pq_X10_copy 7 (pc' := 12) (L' := [some (.ref 0), some (.ref 1000)]) (S' := [.int 40, .int 0, .ref 1, .int 0, .ref 1001]) (C' := mcX10_copy f_there f_marked f_trains f_step a_size a_age a_train a_car a_place a_links a_roots a_cars a_from other_f_there other_f_marked other_f_trains other_f_step other_a_size other_a_age other_a_train other_a_car other_a_place other_a_links other_a_roots other_a_cars other_a_from) rfl trivial ?_
  refine xR_copyi K pq_X10_copy rfl (xlkc_X10) 11 1 rfl rfl (by decide) (by decide) (by decide) (by decide) (by decide) (by decide) (Nat.le_of_ble_eq_true rfl) (C2 := mcX10_copy f_there f_marked f_trains f_step (va_cpy other_a_size a_size 0 0 40) a_age a_train a_car a_place a_links a_roots a_cars a_from other_f_there other_f_marked other_f_trains other_f_step other_a_size other_a_age other_a_train other_a_car other_a_place other_a_links other_a_roots other_a_cars other_a_from) rfl ?_
  refine xR_st K pq_X10_copy 7 (pc' := 27) (L' := [some (.ref 0), some (.ref 1000)]) (S' := [.int 40, .int 0, .ref 2, .int 0, .ref 1002]) (C' := mcX10_copy f_there f_marked f_trains f_step (va_cpy other_a_size a_size 0 0 40) a_age a_train a_car a_place a_links a_roots a_cars a_from other_f_there other_f_marked other_f_trains other_f_step other_a_size other_a_age other_a_train other_a_car other_a_place other_a_links other_a_roots other_a_cars other_a_from) rfl trivial ?_
  refine xR_copyi K pq_X10_copy rfl (xlkc_X10) 12 2 rfl rfl (by decide) (by decide) (by decide) (by decide) (by decide) (by decide) (Nat.le_of_ble_eq_true rfl) (C2 := mcX10_copy f_there f_marked f_trains f_step (va_cpy other_a_size a_size 0 0 40) (va_cpy other_a_age a_age 0 0 40) a_train a_car a_place a_links a_roots a_cars a_from other_f_there other_f_marked other_f_trains other_f_step other_a_size other_a_age other_a_train other_a_car other_a_place other_a_links other_a_roots other_a_cars other_a_from) rfl ?_
  refine xR_st K pq_X10_copy 7 (pc' := 42) (L' := [some (.ref 0), some (.ref 1000)]) (S' := [.int 40, .int 0, .ref 3, .int 0, .ref 1003]) (C' := mcX10_copy f_there f_marked f_trains f_step (va_cpy other_a_size a_size 0 0 40) (va_cpy other_a_age a_age 0 0 40) a_train a_car a_place a_links a_roots a_cars a_from other_f_there other_f_marked other_f_trains other_f_step other_a_size other_a_age other_a_train other_a_car other_a_place other_a_links other_a_roots other_a_cars other_a_from) rfl trivial ?_
  refine xR_copyi K pq_X10_copy rfl (xlkc_X10) 13 3 rfl rfl (by decide) (by decide) (by decide) (by decide) (by decide) (by decide) (Nat.le_of_ble_eq_true rfl) (C2 := mcX10_copy f_there f_marked f_trains f_step (va_cpy other_a_size a_size 0 0 40) (va_cpy other_a_age a_age 0 0 40) (va_cpy other_a_train a_train 0 0 40) a_car a_place a_links a_roots a_cars a_from other_f_there other_f_marked other_f_trains other_f_step other_a_size other_a_age other_a_train other_a_car other_a_place other_a_links other_a_roots other_a_cars other_a_from) rfl ?_
  refine xR_st K pq_X10_copy 7 (pc' := 57) (L' := [some (.ref 0), some (.ref 1000)]) (S' := [.int 40, .int 0, .ref 4, .int 0, .ref 1004]) (C' := mcX10_copy f_there f_marked f_trains f_step (va_cpy other_a_size a_size 0 0 40) (va_cpy other_a_age a_age 0 0 40) (va_cpy other_a_train a_train 0 0 40) a_car a_place a_links a_roots a_cars a_from other_f_there other_f_marked other_f_trains other_f_step other_a_size other_a_age other_a_train other_a_car other_a_place other_a_links other_a_roots other_a_cars other_a_from) rfl trivial ?_
  refine xR_copyi K pq_X10_copy rfl (xlkc_X10) 14 4 rfl rfl (by decide) (by decide) (by decide) (by decide) (by decide) (by decide) (Nat.le_of_ble_eq_true rfl) (C2 := mcX10_copy f_there f_marked f_trains f_step (va_cpy other_a_size a_size 0 0 40) (va_cpy other_a_age a_age 0 0 40) (va_cpy other_a_train a_train 0 0 40) (va_cpy other_a_car a_car 0 0 40) a_place a_links a_roots a_cars a_from other_f_there other_f_marked other_f_trains other_f_step other_a_size other_a_age other_a_train other_a_car other_a_place other_a_links other_a_roots other_a_cars other_a_from) rfl ?_
  refine xR_st K pq_X10_copy 7 (pc' := 72) (L' := [some (.ref 0), some (.ref 1000)]) (S' := [.int 40, .int 0, .ref 5, .int 0, .ref 1005]) (C' := mcX10_copy f_there f_marked f_trains f_step (va_cpy other_a_size a_size 0 0 40) (va_cpy other_a_age a_age 0 0 40) (va_cpy other_a_train a_train 0 0 40) (va_cpy other_a_car a_car 0 0 40) a_place a_links a_roots a_cars a_from other_f_there other_f_marked other_f_trains other_f_step other_a_size other_a_age other_a_train other_a_car other_a_place other_a_links other_a_roots other_a_cars other_a_from) rfl trivial ?_
  refine xR_copyi K pq_X10_copy rfl (xlkc_X10) 15 5 rfl rfl (by decide) (by decide) (by decide) (by decide) (by decide) (by decide) (Nat.le_of_ble_eq_true rfl) (C2 := mcX10_copy f_there f_marked f_trains f_step (va_cpy other_a_size a_size 0 0 40) (va_cpy other_a_age a_age 0 0 40) (va_cpy other_a_train a_train 0 0 40) (va_cpy other_a_car a_car 0 0 40) (va_cpy other_a_place a_place 0 0 40) a_links a_roots a_cars a_from other_f_there other_f_marked other_f_trains other_f_step other_a_size other_a_age other_a_train other_a_car other_a_place other_a_links other_a_roots other_a_cars other_a_from) rfl ?_
  refine xR_st K pq_X10_copy 7 (pc' := 88) (L' := [some (.ref 0), some (.ref 1000)]) (S' := [.int 160, .int 0, .ref 6, .int 0, .ref 1006]) (C' := mcX10_copy f_there f_marked f_trains f_step (va_cpy other_a_size a_size 0 0 40) (va_cpy other_a_age a_age 0 0 40) (va_cpy other_a_train a_train 0 0 40) (va_cpy other_a_car a_car 0 0 40) (va_cpy other_a_place a_place 0 0 40) a_links a_roots a_cars a_from other_f_there other_f_marked other_f_trains other_f_step other_a_size other_a_age other_a_train other_a_car other_a_place other_a_links other_a_roots other_a_cars other_a_from) rfl trivial ?_
  refine xR_copyi K pq_X10_copy rfl (xlkc_X10) 16 6 rfl rfl (by decide) (by decide) (by decide) (by decide) (by decide) (by decide) (Nat.le_of_ble_eq_true rfl) (C2 := mcX10_copy f_there f_marked f_trains f_step (va_cpy other_a_size a_size 0 0 40) (va_cpy other_a_age a_age 0 0 40) (va_cpy other_a_train a_train 0 0 40) (va_cpy other_a_car a_car 0 0 40) (va_cpy other_a_place a_place 0 0 40) (va_cpy other_a_links a_links 0 0 160) a_roots a_cars a_from other_f_there other_f_marked other_f_trains other_f_step other_a_size other_a_age other_a_train other_a_car other_a_place other_a_links other_a_roots other_a_cars other_a_from) rfl ?_
  refine xR_st K pq_X10_copy 7 (pc' := 103) (L' := [some (.ref 0), some (.ref 1000)]) (S' := [.int 8, .int 0, .ref 7, .int 0, .ref 1007]) (C' := mcX10_copy f_there f_marked f_trains f_step (va_cpy other_a_size a_size 0 0 40) (va_cpy other_a_age a_age 0 0 40) (va_cpy other_a_train a_train 0 0 40) (va_cpy other_a_car a_car 0 0 40) (va_cpy other_a_place a_place 0 0 40) (va_cpy other_a_links a_links 0 0 160) a_roots a_cars a_from other_f_there other_f_marked other_f_trains other_f_step other_a_size other_a_age other_a_train other_a_car other_a_place other_a_links other_a_roots other_a_cars other_a_from) rfl trivial ?_
  refine xR_copyi K pq_X10_copy rfl (xlkc_X10) 17 7 rfl rfl (by decide) (by decide) (by decide) (by decide) (by decide) (by decide) (Nat.le_of_ble_eq_true rfl) (C2 := mcX10_copy f_there f_marked f_trains f_step (va_cpy other_a_size a_size 0 0 40) (va_cpy other_a_age a_age 0 0 40) (va_cpy other_a_train a_train 0 0 40) (va_cpy other_a_car a_car 0 0 40) (va_cpy other_a_place a_place 0 0 40) (va_cpy other_a_links a_links 0 0 160) (va_cpy other_a_roots a_roots 0 0 8) a_cars a_from other_f_there other_f_marked other_f_trains other_f_step other_a_size other_a_age other_a_train other_a_car other_a_place other_a_links other_a_roots other_a_cars other_a_from) rfl ?_
  refine xR_st K pq_X10_copy 7 (pc' := 118) (L' := [some (.ref 0), some (.ref 1000)]) (S' := [.int 42, .int 0, .ref 8, .int 0, .ref 1008]) (C' := mcX10_copy f_there f_marked f_trains f_step (va_cpy other_a_size a_size 0 0 40) (va_cpy other_a_age a_age 0 0 40) (va_cpy other_a_train a_train 0 0 40) (va_cpy other_a_car a_car 0 0 40) (va_cpy other_a_place a_place 0 0 40) (va_cpy other_a_links a_links 0 0 160) (va_cpy other_a_roots a_roots 0 0 8) a_cars a_from other_f_there other_f_marked other_f_trains other_f_step other_a_size other_a_age other_a_train other_a_car other_a_place other_a_links other_a_roots other_a_cars other_a_from) rfl trivial ?_
  refine xR_copyi K pq_X10_copy rfl (xlkc_X10) 18 8 rfl rfl (by decide) (by decide) (by decide) (by decide) (by decide) (by decide) (Nat.le_of_ble_eq_true rfl) (C2 := mcX10_copy f_there f_marked f_trains f_step (va_cpy other_a_size a_size 0 0 40) (va_cpy other_a_age a_age 0 0 40) (va_cpy other_a_train a_train 0 0 40) (va_cpy other_a_car a_car 0 0 40) (va_cpy other_a_place a_place 0 0 40) (va_cpy other_a_links a_links 0 0 160) (va_cpy other_a_roots a_roots 0 0 8) (va_cpy other_a_cars a_cars 0 0 42) a_from other_f_there other_f_marked other_f_trains other_f_step other_a_size other_a_age other_a_train other_a_car other_a_place other_a_links other_a_roots other_a_cars other_a_from) rfl ?_
  refine xR_st K pq_X10_copy 7 (pc' := 133) (L' := [some (.ref 0), some (.ref 1000)]) (S' := [.int 40, .int 0, .ref 9, .int 0, .ref 1009]) (C' := mcX10_copy f_there f_marked f_trains f_step (va_cpy other_a_size a_size 0 0 40) (va_cpy other_a_age a_age 0 0 40) (va_cpy other_a_train a_train 0 0 40) (va_cpy other_a_car a_car 0 0 40) (va_cpy other_a_place a_place 0 0 40) (va_cpy other_a_links a_links 0 0 160) (va_cpy other_a_roots a_roots 0 0 8) (va_cpy other_a_cars a_cars 0 0 42) a_from other_f_there other_f_marked other_f_trains other_f_step other_a_size other_a_age other_a_train other_a_car other_a_place other_a_links other_a_roots other_a_cars other_a_from) rfl trivial ?_
  refine xR_copyl K pq_X10_copy rfl (xlkc_X10) 19 9 rfl rfl (by decide) (by decide) (by decide) (by decide) (by decide) (by decide) (Nat.le_of_ble_eq_true rfl) (C2 := mcX10_copy f_there f_marked f_trains f_step (va_cpy other_a_size a_size 0 0 40) (va_cpy other_a_age a_age 0 0 40) (va_cpy other_a_train a_train 0 0 40) (va_cpy other_a_car a_car 0 0 40) (va_cpy other_a_place a_place 0 0 40) (va_cpy other_a_links a_links 0 0 160) (va_cpy other_a_roots a_roots 0 0 8) (va_cpy other_a_cars a_cars 0 0 42) (va_cpy other_a_from a_from 0 0 40) other_f_there other_f_marked other_f_trains other_f_step other_a_size other_a_age other_a_train other_a_car other_a_place other_a_links other_a_roots other_a_cars other_a_from) rfl ?_
  refine xR_st K pq_X10_copy 16 (pc' := 168) (L' := [some (.ref 0), some (.ref 1000)]) (S' := []) (C' := mcX10_copy other_f_there other_f_marked other_f_trains other_f_step (va_cpy other_a_size a_size 0 0 40) (va_cpy other_a_age a_age 0 0 40) (va_cpy other_a_train a_train 0 0 40) (va_cpy other_a_car a_car 0 0 40) (va_cpy other_a_place a_place 0 0 40) (va_cpy other_a_links a_links 0 0 160) (va_cpy other_a_roots a_roots 0 0 8) (va_cpy other_a_cars a_cars 0 0 42) (va_cpy other_a_from a_from 0 0 40) other_f_there other_f_marked other_f_trains other_f_step other_a_size other_a_age other_a_train other_a_car other_a_place other_a_links other_a_roots other_a_cars other_a_from) rfl ⟨trivial, trivial, trivial, trivial, trivial⟩ ?_
  exact xR_retv K pq_X10_copy rfl
def pg_X10_beginTrain : xPg := [(0, .aload_n 0, .null), (1, .getfield 33, .retAddr 1007), (4, .aload_n 0, .null), (5, .getfield 56, .retAddr 1011), (8, .iconst 0, .int 0), (9, .invokestatic 108, .null), (12, .aload_n 0, .null), (13, .dup, .null), (14, .getfield 56, .retAddr 1011), (17, .iconst 1, .int 1), (18, .iadd, .null), (19, .putfield 56, .retAddr 1011), (22, .return_, .null)]
theorem pq_X10_beginTrain : xPq RX10 cX10_beginTrain tb_X10 pg_X10_beginTrain := ⟨tab_X10, xPok_of (by decide +kernel)⟩
theorem cy_X10_beginTrain : xCy yX10_beginTrain cX10_beginTrain 1 none := ⟨xtb_in (i := 899) (by decide +kernel) rfl, xtb_in (i := 156) (by decide +kernel) rfl, by decide +kernel, by decide +kernel⟩
theorem si_X10_beginTrain : Cond.instanceMethod yX10_beginTrain ∈ xtb ∧ Cond.selects yX10_beginTrain.cls yX10_beginTrain yX10_beginTrain ∈ xtb := ⟨xtb_in (i := 897) (by decide +kernel) rfl, xtb_in (i := 898) (by decide +kernel) rfl⟩
theorem ar_X10_beginTrain : xar yX10_beginTrain 0 := by unfold xar; decide +kernel
def mcX10_beginTrain (f_there : Int64) (f_marked : Int64) (f_trains : Int32) (f_step : Int32) (a_cars : Nat → Int32) : xC := [(0, .inr (10, [.ref 1, .ref 2, .ref 3, .ref 4, .ref 5, .ref 6, .ref 7, .ref 8, .ref 9, .long f_there, .long f_marked, .int f_trains, .int f_step])), (8, .inl (0, 42, .inl a_cars))]
def meX10_beginTrain (f_there : Int64) (f_marked : Int64) (f_trains : Int32) (f_step : Int32) (a_cars : Nat → Int32) : Int32 × (Nat → Int32) → xRes := fun r => some (none, mcX10_beginTrain f_there f_marked r.1 f_step r.2)
def mX10_beginTrain (f_trains : Int32) (a_cars : Nat → Int32) : Int32 × (Nat → Int32) :=
  xlet (mX11_put 42 f_trains (0 : Int32) a_cars) (fun q1 =>
    (f_trains + 1, q1))
set_option maxRecDepth 100000 in
set_option maxHeartbeats 1500000 in
theorem kX10_beginTrain (l : Launch) (f_there : Int64) (f_marked : Int64) (f_trains : Int32) (f_step : Int32) (a_cars : Nat → Int32)  : xMet l 1 yX10_beginTrain cX10_beginTrain 1 none [.ref 0] (mcX10_beginTrain f_there f_marked f_trains f_step a_cars) (meX10_beginTrain f_there f_marked f_trains f_step a_cars (mX10_beginTrain f_trains a_cars)) := by
  refine xMet_of cy_X10_beginTrain [some (.ref 0)] rfl (Nat.le_of_ble_eq_true rfl) (fun X K => ?_)
  refine xR_st K pq_X10_beginTrain 5 (pc' := 9) (L' := [some (.ref 0)]) (S' := [.int 0, .int f_trains, .ref 8]) (C' := mcX10_beginTrain f_there f_marked f_trains f_step a_cars) rfl trivial ?_
  refine xR_let (enc := meX10_beginTrain f_there f_marked f_trains f_step a_cars) (fun q1 hq1 => ?_)
  have hMq1 := kX11_put l 42 f_trains (0 : Int32) a_cars (by first | assumption | decide | omega)
  rw [← hq1] at hMq1
  refine xR_callS3 K pq_X10_beginTrain rfl lk_X10_108 cy_X11_put ss_X11_put ar_X11_put (rest := []) hMq1 (by decide) (by decide) (S2 := []) (C2 := mcX10_beginTrain f_there f_marked f_trains f_step q1) (fun k => k - 1000 + 8) [1] rfl rfl (Nat.le_of_ble_eq_true rfl) rfl (by decide) rfl rfl rfl ?_
  refine xR_st K pq_X10_beginTrain 6 (pc' := 22) (L' := [some (.ref 0)]) (S' := []) (C' := mcX10_beginTrain f_there f_marked (f_trains + 1) f_step q1) rfl ⟨trivial, trivial⟩ ?_
  exact xR_retv K pq_X10_beginTrain rfl
def pg_X10_add : xPg := [(0, .aload_n 0, .null), (1, .getfield 9, .retAddr 1000), (4, .iload_n 1, .null), (5, .iload_n 2, .null), (6, .invokestatic 108, .null), (9, .aload_n 0, .null), (10, .getfield 15, .retAddr 1001), (13, .iload_n 1, .null), (14, .iconst 0, .int 0), (15, .invokestatic 108, .null), (18, .aload_n 0, .null), (19, .dup, .null), (20, .getfield 49, .retAddr 1009), (23, .iload_n 1, .null), (24, .invokestatic 112, .null), (27, .lor, .null), (28, .putfield 49, .retAddr 1009), (31, .return_, .null)]
theorem pq_X10_add : xPq RX10 cX10_add tb_X10 pg_X10_add := ⟨tab_X10, xPok_of (by decide +kernel)⟩
theorem cy_X10_add : xCy yX10_add cX10_add 3 none := ⟨xtb_in (i := 904) (by decide +kernel) rfl, xtb_in (i := 156) (by decide +kernel) rfl, by decide +kernel, by decide +kernel⟩
theorem si_X10_add : Cond.instanceMethod yX10_add ∈ xtb ∧ Cond.selects yX10_add.cls yX10_add yX10_add ∈ xtb := ⟨xtb_in (i := 902) (by decide +kernel) rfl, xtb_in (i := 903) (by decide +kernel) rfl⟩
theorem ar_X10_add : xar yX10_add 2 := by unfold xar; decide +kernel
def mcX10_add (f_there : Int64) (f_marked : Int64) (f_trains : Int32) (f_step : Int32) (a_size : Nat → Int32) (a_age : Nat → Int32) : xC := [(0, .inr (10, [.ref 1, .ref 2, .ref 3, .ref 4, .ref 5, .ref 6, .ref 7, .ref 8, .ref 9, .long f_there, .long f_marked, .int f_trains, .int f_step])), (1, .inl (0, 40, .inl a_size)), (2, .inl (0, 40, .inl a_age))]
def meX10_add (f_there : Int64) (f_marked : Int64) (f_trains : Int32) (f_step : Int32) (a_size : Nat → Int32) (a_age : Nat → Int32) : Int64 × (Nat → Int32) × (Nat → Int32) → xRes := fun r => some (none, mcX10_add r.1 f_marked f_trains f_step r.2.1 r.2.2)
def mX10_add (v_t : Int32) (v_units : Int32) (f_there : Int64) (a_size : Nat → Int32) (a_age : Nat → Int32) : Int64 × (Nat → Int32) × (Nat → Int32) :=
  xlet (mX11_put 40 v_t v_units a_size) (fun q1 =>
    xlet (mX11_put 40 v_t (0 : Int32) a_age) (fun q2 =>
      (f_there ||| (mX11_bit v_t), q1, q2)))
set_option maxRecDepth 100000 in
set_option maxHeartbeats 1500000 in
theorem kX10_add (l : Launch) (v_t : Int32) (v_units : Int32) (f_there : Int64) (f_marked : Int64) (f_trains : Int32) (f_step : Int32) (a_size : Nat → Int32) (a_age : Nat → Int32)  : xMet l 1 yX10_add cX10_add 3 none [.ref 0, .int v_t, .int v_units] (mcX10_add f_there f_marked f_trains f_step a_size a_age) (meX10_add f_there f_marked f_trains f_step a_size a_age (mX10_add v_t v_units f_there a_size a_age)) := by
  refine xMet_of cy_X10_add [some (.ref 0), some (.int v_t), some (.int v_units)] rfl (Nat.le_of_ble_eq_true rfl) (fun X K => ?_)
  refine xR_st K pq_X10_add 4 (pc' := 6) (L' := [some (.ref 0), some (.int v_t), some (.int v_units)]) (S' := [.int v_units, .int v_t, .ref 1]) (C' := mcX10_add f_there f_marked f_trains f_step a_size a_age) rfl trivial ?_
  refine xR_let (enc := meX10_add f_there f_marked f_trains f_step a_size a_age) (fun q1 hq1 => ?_)
  have hMq1 := kX11_put l 40 v_t v_units a_size (by first | assumption | decide | omega)
  rw [← hq1] at hMq1
  refine xR_callS3 K pq_X10_add rfl lk_X10_108 cy_X11_put ss_X11_put ar_X11_put (rest := []) hMq1 (by decide) (by decide) (S2 := []) (C2 := mcX10_add f_there f_marked f_trains f_step q1 a_age) (fun k => k - 1000 + 1) [1] rfl rfl (Nat.le_of_ble_eq_true rfl) rfl (by decide) rfl rfl rfl ?_
  refine xR_st K pq_X10_add 4 (pc' := 15) (L' := [some (.ref 0), some (.int v_t), some (.int v_units)]) (S' := [.int 0, .int v_t, .ref 2]) (C' := mcX10_add f_there f_marked f_trains f_step q1 a_age) rfl trivial ?_
  refine xR_let (enc := meX10_add f_there f_marked f_trains f_step a_size a_age) (fun q2 hq2 => ?_)
  have hMq2 := kX11_put l 40 v_t (0 : Int32) a_age (by first | assumption | decide | omega)
  rw [← hq2] at hMq2
  refine xR_callS3 K pq_X10_add rfl lk_X10_108 cy_X11_put ss_X11_put ar_X11_put (rest := []) hMq2 (by decide) (by decide) (S2 := []) (C2 := mcX10_add f_there f_marked f_trains f_step q1 q2) (fun k => k - 1000 + 2) [2] rfl rfl (Nat.le_of_ble_eq_true rfl) rfl (by decide) rfl rfl rfl ?_
  refine xR_st K pq_X10_add 4 (pc' := 24) (L' := [some (.ref 0), some (.int v_t), some (.int v_units)]) (S' := [.int v_t, .long f_there, .ref 0]) (C' := mcX10_add f_there f_marked f_trains f_step q1 q2) rfl trivial ?_
  refine xR_callS3 K pq_X10_add rfl lk_X10_112 cy_X11_bit ss_X11_bit ar_X11_bit (rest := [.long f_there, .ref 0]) (kX11_bit l v_t) (by decide) (by decide) (S2 := [.long (mX11_bit v_t), .long f_there, .ref 0]) (C2 := mcX10_add f_there f_marked f_trains f_step q1 q2) id [] rfl rfl (Nat.le_of_ble_eq_true rfl) rfl (by decide) rfl rfl rfl ?_
  refine xR_st K pq_X10_add 2 (pc' := 31) (L' := [some (.ref 0), some (.int v_t), some (.int v_units)]) (S' := []) (C' := mcX10_add (f_there ||| (mX11_bit v_t)) f_marked f_trains f_step q1 q2) rfl ⟨trivial, trivial⟩ ?_
  exact xR_retv K pq_X10_add rfl
def pg_X10_lay : xPg := [(0, .aload_n 0, .null), (1, .getfield 33, .retAddr 1007), (4, .iload_n 2, .null), (5, .invokestatic 80, .null), (8, .iconst 1, .int 1), (9, .isub, .null), (10, .istore 4, .null), (12, .iconst 0, .int 0), (13, .istore 5, .null), (15, .iconst 0, .int 0), (16, .istore 6, .null), (18, .iconst 0, .int 0), (19, .istore 7, .null), (21, .iload 7, .null), (23, .bipush 40, .int 40), (25, .if_icmp .ge 63, .retAddr 88), (28, .iload 7, .null), (30, .iload_n 1, .null), (31, .if_icmp .eq 51, .retAddr 82), (34, .aload_n 0, .null), (35, .getfield 9, .retAddr 1000), (38, .iload 7, .null), (40, .iaload, .null), (41, .ifCond .le 41, .retAddr 82), (44, .aload_n 0, .null), (45, .getfield 18, .retAddr 1002), (48, .iload 7, .null), (50, .iaload, .null), (51, .iload_n 2, .null), (52, .if_icmp .ne 30, .retAddr 82), (55, .aload_n 0, .null), (56, .getfield 21, .retAddr 1003), (59, .iload 7, .null), (61, .iaload, .null), (62, .iload 4, .null), (64, .if_icmp .ne 18, .retAddr 82), (67, .iload 5, .null), (69, .aload_n 0, .null), (70, .getfield 9, .retAddr 1000), (73, .iload 7, .null), (75, .iaload, .null), (76, .iadd, .null), (77, .istore 5, .null), (79, .iinc 6 1, .int 1), (82, .iinc 7 1, .int 1), (85, .goto (-64), .retAddr 21), (88, .iload 4, .null), (90, .ifCond .lt 18, .retAddr 108), (93, .iload 5, .null), (95, .aload_n 0, .null), (96, .getfield 9, .retAddr 1000), (99, .iload_n 1, .null), (100, .invokestatic 80, .null), (103, .iadd, .null), (104, .iload_n 3, .null), (105, .if_icmp .le 21, .retAddr 126), (108, .iinc 4 1, .int 1), (111, .iconst 0, .int 0), (112, .istore 6, .null), (114, .aload_n 0, .null), (115, .getfield 33, .retAddr 1007), (118, .iload_n 2, .null), (119, .iload 4, .null), (121, .iconst 1, .int 1), (122, .iadd, .null), (123, .invokestatic 108, .null), (126, .aload_n 0, .null), (127, .getfield 18, .retAddr 1002), (130, .iload_n 1, .null), (131, .iload_n 2, .null), (132, .invokestatic 108, .null), (135, .aload_n 0, .null), (136, .getfield 21, .retAddr 1003), (139, .iload_n 1, .null), (140, .iload 4, .null), (142, .invokestatic 108, .null), (145, .aload_n 0, .null), (146, .getfield 24, .retAddr 1004), (149, .iload_n 1, .null), (150, .iload 6, .null), (152, .invokestatic 108, .null), (155, .return_, .null)]
theorem pq_X10_lay : xPq RX10 cX10_lay tb_X10 pg_X10_lay := ⟨tab_X10, xPok_of (by decide +kernel)⟩
theorem cy_X10_lay : xCy yX10_lay cX10_lay 8 none := ⟨xtb_in (i := 911) (by decide +kernel) rfl, xtb_in (i := 156) (by decide +kernel) rfl, by decide +kernel, by decide +kernel⟩
theorem si_X10_lay : Cond.instanceMethod yX10_lay ∈ xtb ∧ Cond.selects yX10_lay.cls yX10_lay yX10_lay ∈ xtb := ⟨xtb_in (i := 909) (by decide +kernel) rfl, xtb_in (i := 910) (by decide +kernel) rfl⟩
theorem ar_X10_lay : xar yX10_lay 3 := by unfold xar; decide +kernel
def mcX10_lay (f_there : Int64) (f_marked : Int64) (f_trains : Int32) (f_step : Int32) (a_size : Nat → Int32) (a_train : Nat → Int32) (a_car : Nat → Int32) (a_place : Nat → Int32) (a_cars : Nat → Int32) : xC := [(0, .inr (10, [.ref 1, .ref 2, .ref 3, .ref 4, .ref 5, .ref 6, .ref 7, .ref 8, .ref 9, .long f_there, .long f_marked, .int f_trains, .int f_step])), (1, .inl (0, 40, .inl a_size)), (3, .inl (0, 40, .inl a_train)), (4, .inl (0, 40, .inl a_car)), (5, .inl (0, 40, .inl a_place)), (8, .inl (0, 42, .inl a_cars))]
def meX10_lay (f_there : Int64) (f_marked : Int64) (f_trains : Int32) (f_step : Int32) (a_size : Nat → Int32) (a_train : Nat → Int32) (a_car : Nat → Int32) (a_place : Nat → Int32) (a_cars : Nat → Int32) : (Nat → Int32) × (Nat → Int32) × (Nat → Int32) × (Nat → Int32) → xRes := fun r => some (none, mcX10_lay f_there f_marked f_trains f_step a_size r.1 r.2.1 r.2.2.1 r.2.2.2)
def mX10_lay_126 (v_t : Int32) (v_to : Int32) (a_train : Nat → Int32) (a_car : Nat → Int32) (a_place : Nat → Int32)  (x4_126 : Int32) (x6_126 : Int32) (a_cars_126 : Nat → Int32) : (Nat → Int32) × (Nat → Int32) × (Nat → Int32) × (Nat → Int32) :=
  xlet (mX11_put 40 v_t v_to a_train) (fun q8 =>
    xlet (mX11_put 40 v_t x4_126 a_car) (fun q9 =>
      xlet (mX11_put 40 v_t x6_126 a_place) (fun q10 =>
        (q8, q9, q10, a_cars_126))))
def mX10_lay_108 (v_t : Int32) (v_to : Int32) (a_train : Nat → Int32) (a_car : Nat → Int32) (a_place : Nat → Int32) (a_cars : Nat → Int32)   : (Nat → Int32) × (Nat → Int32) × (Nat → Int32) × (Nat → Int32) :=
  xlet (mX11_put 42 v_to ((((mX11_at 42 v_to a_cars) - 1) + 1) + 1) a_cars) (fun q7 =>
    mX10_lay_126 v_t v_to a_train a_car a_place (((mX11_at 42 v_to a_cars) - 1) + 1) (0 : Int32) q7)
def mX10_lay_21 (v_t : Int32) (v_to : Int32) (v_units : Int32) (a_size : Nat → Int32) (a_train : Nat → Int32) (a_car : Nat → Int32) (a_place : Nat → Int32) (a_cars : Nat → Int32)  : Nat → Nat → Int32 → Int32 → (Nat → Int32) × (Nat → Int32) × (Nat → Int32) × (Nat → Int32)
  | 0, i21, x5_21, x6_21 => if ((mX11_at 42 v_to a_cars) - 1) < 0 then
      mX10_lay_108 v_t v_to a_train a_car a_place a_cars
    else
      if v_units < (x5_21 + (mX11_at 40 v_t a_size)) then
        mX10_lay_108 v_t v_to a_train a_car a_place a_cars
      else
        mX10_lay_126 v_t v_to a_train a_car a_place ((mX11_at 42 v_to a_cars) - 1) x6_21 a_cars
  | k21 + 1, i21, x5_21, x6_21 =>
    if (nI i21) = v_t then
      mX10_lay_21 v_t v_to v_units a_size a_train a_car a_place a_cars k21 (i21 + 1) x5_21 x6_21
    else
      if 0 < (a_size (nI i21).toNatClampNeg) then
        if (a_train (nI i21).toNatClampNeg) = v_to then
          if (a_car (nI i21).toNatClampNeg) = ((mX11_at 42 v_to a_cars) - 1) then
            mX10_lay_21 v_t v_to v_units a_size a_train a_car a_place a_cars k21 (i21 + 1) (x5_21 + (a_size (nI i21).toNatClampNeg)) (x6_21 + 1)
          else
            mX10_lay_21 v_t v_to v_units a_size a_train a_car a_place a_cars k21 (i21 + 1) x5_21 x6_21
        else
          mX10_lay_21 v_t v_to v_units a_size a_train a_car a_place a_cars k21 (i21 + 1) x5_21 x6_21
      else
        mX10_lay_21 v_t v_to v_units a_size a_train a_car a_place a_cars k21 (i21 + 1) x5_21 x6_21
def mX10_lay (v_t : Int32) (v_to : Int32) (v_units : Int32) (a_size : Nat → Int32) (a_train : Nat → Int32) (a_car : Nat → Int32) (a_place : Nat → Int32) (a_cars : Nat → Int32) : (Nat → Int32) × (Nat → Int32) × (Nat → Int32) × (Nat → Int32) :=
  mX10_lay_21 v_t v_to v_units a_size a_train a_car a_place a_cars 40 0 (0 : Int32) (0 : Int32)
set_option maxRecDepth 100000 in
set_option maxHeartbeats 1500000 in
theorem kX10_lay (l : Launch) (v_t : Int32) (v_to : Int32) (v_units : Int32) (f_there : Int64) (f_marked : Int64) (f_trains : Int32) (f_step : Int32) (a_size : Nat → Int32) (a_train : Nat → Int32) (a_car : Nat → Int32) (a_place : Nat → Int32) (a_cars : Nat → Int32)  : xMet l 1 yX10_lay cX10_lay 8 none [.ref 0, .int v_t, .int v_to, .int v_units] (mcX10_lay f_there f_marked f_trains f_step a_size a_train a_car a_place a_cars) (meX10_lay f_there f_marked f_trains f_step a_size a_train a_car a_place a_cars (mX10_lay v_t v_to v_units a_size a_train a_car a_place a_cars)) := by
  refine xMet_of cy_X10_lay [some (.ref 0), some (.int v_t), some (.int v_to), some (.int v_units), none, none, none, none] rfl (Nat.le_of_ble_eq_true rfl) (fun X K => ?_)
  have J126 : ∀ (x4_126 : Int32) (x6_126 : Int32) (a_cars_126 : Nat → Int32), xR X (meX10_lay f_there f_marked f_trains f_step a_size a_train a_car a_place a_cars (mX10_lay_126 v_t v_to a_train a_car a_place x4_126 x6_126 a_cars_126)) 126 [some (.ref 0), some (.int v_t), some (.int v_to), none, some (.int x4_126), none, some (.int x6_126), none] [] (mcX10_lay f_there f_marked f_trains f_step a_size a_train a_car a_place a_cars_126) := by
    intro x4_126 x6_126 a_cars_126
    refine xR_st K pq_X10_lay 4 (pc' := 132) (L' := [some (.ref 0), some (.int v_t), some (.int v_to), none, some (.int x4_126), none, some (.int x6_126), none]) (S' := [.int v_to, .int v_t, .ref 3]) (C' := mcX10_lay f_there f_marked f_trains f_step a_size a_train a_car a_place a_cars_126) rfl trivial ?_
    refine xR_let (enc := meX10_lay f_there f_marked f_trains f_step a_size a_train a_car a_place a_cars) (fun q8 hq8 => ?_)
    have hMq8 := kX11_put l 40 v_t v_to a_train (by first | assumption | decide | omega)
    rw [← hq8] at hMq8
    refine xR_callS3 K pq_X10_lay rfl lk_X10_108 cy_X11_put ss_X11_put ar_X11_put (rest := []) hMq8 (by decide) (by decide) (S2 := []) (C2 := mcX10_lay f_there f_marked f_trains f_step a_size q8 a_car a_place a_cars_126) (fun k => k - 1000 + 3) [2] rfl rfl (Nat.le_of_ble_eq_true rfl) rfl (by decide) rfl rfl rfl ?_
    refine xR_st K pq_X10_lay 4 (pc' := 142) (L' := [some (.ref 0), some (.int v_t), some (.int v_to), none, some (.int x4_126), none, some (.int x6_126), none]) (S' := [.int x4_126, .int v_t, .ref 4]) (C' := mcX10_lay f_there f_marked f_trains f_step a_size q8 a_car a_place a_cars_126) rfl trivial ?_
    refine xR_let (enc := meX10_lay f_there f_marked f_trains f_step a_size a_train a_car a_place a_cars) (fun q9 hq9 => ?_)
    have hMq9 := kX11_put l 40 v_t x4_126 a_car (by first | assumption | decide | omega)
    rw [← hq9] at hMq9
    refine xR_callS3 K pq_X10_lay rfl lk_X10_108 cy_X11_put ss_X11_put ar_X11_put (rest := []) hMq9 (by decide) (by decide) (S2 := []) (C2 := mcX10_lay f_there f_marked f_trains f_step a_size q8 q9 a_place a_cars_126) (fun k => k - 1000 + 4) [3] rfl rfl (Nat.le_of_ble_eq_true rfl) rfl (by decide) rfl rfl rfl ?_
    refine xR_st K pq_X10_lay 4 (pc' := 152) (L' := [some (.ref 0), some (.int v_t), some (.int v_to), none, some (.int x4_126), none, some (.int x6_126), none]) (S' := [.int x6_126, .int v_t, .ref 5]) (C' := mcX10_lay f_there f_marked f_trains f_step a_size q8 q9 a_place a_cars_126) rfl trivial ?_
    refine xR_let (enc := meX10_lay f_there f_marked f_trains f_step a_size a_train a_car a_place a_cars) (fun q10 hq10 => ?_)
    have hMq10 := kX11_put l 40 v_t x6_126 a_place (by first | assumption | decide | omega)
    rw [← hq10] at hMq10
    refine xR_callS3 K pq_X10_lay rfl lk_X10_108 cy_X11_put ss_X11_put ar_X11_put (rest := []) hMq10 (by decide) (by decide) (S2 := []) (C2 := mcX10_lay f_there f_marked f_trains f_step a_size q8 q9 q10 a_cars_126) (fun k => k - 1000 + 5) [4] rfl rfl (Nat.le_of_ble_eq_true rfl) rfl (by decide) rfl rfl rfl ?_
    exact xR_retv K pq_X10_lay rfl
  have J108 : xR X (meX10_lay f_there f_marked f_trains f_step a_size a_train a_car a_place a_cars (mX10_lay_108 v_t v_to a_train a_car a_place a_cars)) 108 [some (.ref 0), some (.int v_t), some (.int v_to), none, some (.int ((mX11_at 42 v_to a_cars) - 1)), none, none, none] [] (mcX10_lay f_there f_marked f_trains f_step a_size a_train a_car a_place a_cars) := by
    refine xR_st K pq_X10_lay 9 (pc' := 123) (L' := [some (.ref 0), some (.int v_t), some (.int v_to), none, some (.int (((mX11_at 42 v_to a_cars) - 1) + 1)), none, some (.int 0), none]) (S' := [.int ((((mX11_at 42 v_to a_cars) - 1) + 1) + 1), .int v_to, .ref 8]) (C' := mcX10_lay f_there f_marked f_trains f_step a_size a_train a_car a_place a_cars) rfl trivial ?_
    refine xR_let (enc := meX10_lay f_there f_marked f_trains f_step a_size a_train a_car a_place a_cars) (fun q7 hq7 => ?_)
    have hMq7 := kX11_put l 42 v_to ((((mX11_at 42 v_to a_cars) - 1) + 1) + 1) a_cars (by first | assumption | decide | omega)
    rw [← hq7] at hMq7
    refine xR_callS3 K pq_X10_lay rfl lk_X10_108 cy_X11_put ss_X11_put ar_X11_put (rest := []) hMq7 (by decide) (by decide) (S2 := []) (C2 := mcX10_lay f_there f_marked f_trains f_step a_size a_train a_car a_place q7) (fun k => k - 1000 + 8) [5] rfl rfl (Nat.le_of_ble_eq_true rfl) rfl (by decide) rfl rfl rfl ?_
    exact xR_less2 (J126 _ _ _) ⟨rfl, rfl, rfl, rfl, rfl, trivial⟩
  have J21 : ∀ (k21 i21 : Nat) (x5_21 : Int32) (x6_21 : Int32) (hik21 : i21 + k21 = 40), xR X (meX10_lay f_there f_marked f_trains f_step a_size a_train a_car a_place a_cars (mX10_lay_21 v_t v_to v_units a_size a_train a_car a_place a_cars k21 i21 x5_21 x6_21)) 21 [some (.ref 0), some (.int v_t), some (.int v_to), some (.int v_units), some (.int ((mX11_at 42 v_to a_cars) - 1)), some (.int x5_21), some (.int x6_21), some (.int (nI i21))] [] (mcX10_lay f_there f_marked f_trains f_step a_size a_train a_car a_place a_cars) := by
    intro k21
    induction k21 with
    | zero =>
      intro i21 x5_21 x6_21 hik21
      rw [mX10_lay_21.eq_1]
      refine xR_st K pq_X10_lay 2 (pc' := 25) (L' := [some (.ref 0), some (.int v_t), some (.int v_to), some (.int v_units), some (.int ((mX11_at 42 v_to a_cars) - 1)), some (.int x5_21), some (.int x6_21), some (.int (nI i21))]) (S' := [.int 40, .int (nI i21)]) (C' := mcX10_lay f_there f_marked f_trains f_step a_size a_train a_car a_place a_cars) rfl trivial ?_
      refine xR_if2 K pq_X10_lay rfl ⟨rfl, rfl⟩ (fun _ => ?_) (fun hx => absurd hx (xlt_no 40 hik21 (by first | assumption | decide)))
      refine xR_st K pq_X10_lay 1 (pc' := 90) (L' := [some (.ref 0), some (.int v_t), some (.int v_to), some (.int v_units), some (.int ((mX11_at 42 v_to a_cars) - 1)), some (.int x5_21), some (.int x6_21), some (.int (nI i21))]) (S' := [.int ((mX11_at 42 v_to a_cars) - 1)]) (C' := mcX10_lay f_there f_marked f_trains f_step a_size a_train a_car a_place a_cars) rfl trivial ?_
      refine xR_i0 (enc := meX10_lay f_there f_marked f_trains f_step a_size a_train a_car a_place a_cars) (q1 := 108) (q2 := 93) K pq_X10_lay rfl rfl rfl rfl (fun h5 => ?_) (fun h5 => ?_)
      · exact xR_less2 (J108) ⟨rfl, rfl, rfl, rfl, trivial⟩
      · refine xR_st K pq_X10_lay 4 (pc' := 100) (L' := [some (.ref 0), some (.int v_t), some (.int v_to), some (.int v_units), some (.int ((mX11_at 42 v_to a_cars) - 1)), some (.int x5_21), some (.int x6_21), some (.int (nI i21))]) (S' := [.int v_t, .ref 1, .int x5_21]) (C' := mcX10_lay f_there f_marked f_trains f_step a_size a_train a_car a_place a_cars) rfl trivial ?_
        refine xR_callS3 K pq_X10_lay rfl lk_X10_80 cy_X11_at ss_X11_at ar_X11_at (rest := [.int x5_21]) (kX11_at l 40 v_t a_size (by first | assumption | decide | omega)) (by decide) (by decide) (S2 := [.int (mX11_at 40 v_t a_size), .int x5_21]) (C2 := mcX10_lay f_there f_marked f_trains f_step a_size a_train a_car a_place a_cars) (fun k => k - 1000 + 1) [1] rfl rfl (Nat.le_of_ble_eq_true rfl) rfl (by decide) rfl rfl rfl ?_
        refine xR_st K pq_X10_lay 2 (pc' := 105) (L' := [some (.ref 0), some (.int v_t), some (.int v_to), some (.int v_units), some (.int ((mX11_at 42 v_to a_cars) - 1)), some (.int x5_21), some (.int x6_21), some (.int (nI i21))]) (S' := [.int v_units, .int (x5_21 + (mX11_at 40 v_t a_size))]) (C' := mcX10_lay f_there f_marked f_trains f_step a_size a_train a_car a_place a_cars) rfl trivial ?_
        refine xR_i2 (enc := meX10_lay f_there f_marked f_trains f_step a_size a_train a_car a_place a_cars) (q1 := 108) (q2 := 126) K pq_X10_lay rfl rfl rfl rfl (fun h6 => ?_) (fun h6 => ?_)
        · exact xR_less2 (J108) ⟨rfl, rfl, rfl, rfl, trivial⟩
        · exact xR_less2 (J126 _ _ _) ⟨rfl, rfl, rfl, rfl, rfl, trivial⟩
    | succ k21 ih =>
      intro i21 x5_21 x6_21 hik21
      rw [mX10_lay_21.eq_2]
      refine xR_st K pq_X10_lay 2 (pc' := 25) (L' := [some (.ref 0), some (.int v_t), some (.int v_to), some (.int v_units), some (.int ((mX11_at 42 v_to a_cars) - 1)), some (.int x5_21), some (.int x6_21), some (.int (nI i21))]) (S' := [.int 40, .int (nI i21)]) (C' := mcX10_lay f_there f_marked f_trains f_step a_size a_train a_car a_place a_cars) rfl trivial ?_
      refine xR_if2 K pq_X10_lay rfl ⟨rfl, rfl⟩ (fun hx => absurd (xlt_yes 40 hik21 (by first | assumption | decide)) hx) (fun _ => ?_)
      refine xR_st K pq_X10_lay 2 (pc' := 31) (L' := [some (.ref 0), some (.int v_t), some (.int v_to), some (.int v_units), some (.int ((mX11_at 42 v_to a_cars) - 1)), some (.int x5_21), some (.int x6_21), some (.int (nI i21))]) (S' := [.int v_t, .int (nI i21)]) (C' := mcX10_lay f_there f_marked f_trains f_step a_size a_train a_car a_place a_cars) rfl trivial ?_
      refine xR_i2 (enc := meX10_lay f_there f_marked f_trains f_step a_size a_train a_car a_place a_cars) (q1 := 82) (q2 := 34) K pq_X10_lay rfl rfl rfl rfl (fun h1 => ?_) (fun h1 => ?_)
      · refine xR_st K pq_X10_lay 2 (pc' := 21) (L' := [some (.ref 0), some (.int v_t), some (.int v_to), some (.int v_units), some (.int ((mX11_at 42 v_to a_cars) - 1)), some (.int x5_21), some (.int x6_21), some (.int ((nI i21) + 1))]) (S' := []) (C' := mcX10_lay f_there f_marked f_trains f_step a_size a_train a_car a_place a_cars) rfl trivial ?_
        exact xR_less2 (ih (i21 + 1) _ _ (by omega)) ⟨rfl, rfl, rfl, rfl, rfl, rfl, rfl, xcnt i21, trivial⟩
      · refine xR_st K pq_X10_lay 4 (pc' := 41) (L' := [some (.ref 0), some (.int v_t), some (.int v_to), some (.int v_units), some (.int ((mX11_at 42 v_to a_cars) - 1)), some (.int x5_21), some (.int x6_21), some (.int (nI i21))]) (S' := [.int (a_size (nI i21).toNatClampNeg)]) (C' := mcX10_lay f_there f_marked f_trains f_step a_size a_train a_car a_place a_cars) rfl ⟨xin_nat rfl (by omega) (by first | assumption | decide), trivial⟩ ?_
        refine xR_i0 (enc := meX10_lay f_there f_marked f_trains f_step a_size a_train a_car a_place a_cars) (q1 := 44) (q2 := 82) K pq_X10_lay rfl rfl rfl rfl (fun h2 => ?_) (fun h2 => ?_)
        · refine xR_st K pq_X10_lay 5 (pc' := 52) (L' := [some (.ref 0), some (.int v_t), some (.int v_to), some (.int v_units), some (.int ((mX11_at 42 v_to a_cars) - 1)), some (.int x5_21), some (.int x6_21), some (.int (nI i21))]) (S' := [.int v_to, .int (a_train (nI i21).toNatClampNeg)]) (C' := mcX10_lay f_there f_marked f_trains f_step a_size a_train a_car a_place a_cars) rfl ⟨xin_nat rfl (by omega) (by first | assumption | decide), trivial⟩ ?_
          refine xR_i2 (enc := meX10_lay f_there f_marked f_trains f_step a_size a_train a_car a_place a_cars) (q1 := 55) (q2 := 82) K pq_X10_lay rfl rfl rfl rfl (fun h3 => ?_) (fun h3 => ?_)
          · refine xR_st K pq_X10_lay 5 (pc' := 64) (L' := [some (.ref 0), some (.int v_t), some (.int v_to), some (.int v_units), some (.int ((mX11_at 42 v_to a_cars) - 1)), some (.int x5_21), some (.int x6_21), some (.int (nI i21))]) (S' := [.int ((mX11_at 42 v_to a_cars) - 1), .int (a_car (nI i21).toNatClampNeg)]) (C' := mcX10_lay f_there f_marked f_trains f_step a_size a_train a_car a_place a_cars) rfl ⟨xin_nat rfl (by omega) (by first | assumption | decide), trivial⟩ ?_
            refine xR_i2 (enc := meX10_lay f_there f_marked f_trains f_step a_size a_train a_car a_place a_cars) (q1 := 67) (q2 := 82) K pq_X10_lay rfl rfl rfl rfl (fun h4 => ?_) (fun h4 => ?_)
            · refine xR_st K pq_X10_lay 10 (pc' := 21) (L' := [some (.ref 0), some (.int v_t), some (.int v_to), some (.int v_units), some (.int ((mX11_at 42 v_to a_cars) - 1)), some (.int (x5_21 + (a_size (nI i21).toNatClampNeg))), some (.int (x6_21 + 1)), some (.int ((nI i21) + 1))]) (S' := []) (C' := mcX10_lay f_there f_marked f_trains f_step a_size a_train a_car a_place a_cars) rfl ⟨xin_nat rfl (by omega) (by first | assumption | decide), trivial⟩ ?_
              exact xR_less2 (ih (i21 + 1) _ _ (by omega)) ⟨rfl, rfl, rfl, rfl, rfl, rfl, rfl, xcnt i21, trivial⟩
            · refine xR_st K pq_X10_lay 2 (pc' := 21) (L' := [some (.ref 0), some (.int v_t), some (.int v_to), some (.int v_units), some (.int ((mX11_at 42 v_to a_cars) - 1)), some (.int x5_21), some (.int x6_21), some (.int ((nI i21) + 1))]) (S' := []) (C' := mcX10_lay f_there f_marked f_trains f_step a_size a_train a_car a_place a_cars) rfl trivial ?_
              exact xR_less2 (ih (i21 + 1) _ _ (by omega)) ⟨rfl, rfl, rfl, rfl, rfl, rfl, rfl, xcnt i21, trivial⟩
          · refine xR_st K pq_X10_lay 2 (pc' := 21) (L' := [some (.ref 0), some (.int v_t), some (.int v_to), some (.int v_units), some (.int ((mX11_at 42 v_to a_cars) - 1)), some (.int x5_21), some (.int x6_21), some (.int ((nI i21) + 1))]) (S' := []) (C' := mcX10_lay f_there f_marked f_trains f_step a_size a_train a_car a_place a_cars) rfl trivial ?_
            exact xR_less2 (ih (i21 + 1) _ _ (by omega)) ⟨rfl, rfl, rfl, rfl, rfl, rfl, rfl, xcnt i21, trivial⟩
        · refine xR_st K pq_X10_lay 2 (pc' := 21) (L' := [some (.ref 0), some (.int v_t), some (.int v_to), some (.int v_units), some (.int ((mX11_at 42 v_to a_cars) - 1)), some (.int x5_21), some (.int x6_21), some (.int ((nI i21) + 1))]) (S' := []) (C' := mcX10_lay f_there f_marked f_trains f_step a_size a_train a_car a_place a_cars) rfl trivial ?_
          exact xR_less2 (ih (i21 + 1) _ _ (by omega)) ⟨rfl, rfl, rfl, rfl, rfl, rfl, rfl, xcnt i21, trivial⟩
  refine xR_st K pq_X10_lay 3 (pc' := 5) (L' := [some (.ref 0), some (.int v_t), some (.int v_to), some (.int v_units), none, none, none, none]) (S' := [.int v_to, .ref 8]) (C' := mcX10_lay f_there f_marked f_trains f_step a_size a_train a_car a_place a_cars) rfl trivial ?_
  refine xR_callS3 K pq_X10_lay rfl lk_X10_80 cy_X11_at ss_X11_at ar_X11_at (rest := []) (kX11_at l 42 v_to a_cars (by first | assumption | decide | omega)) (by decide) (by decide) (S2 := [.int (mX11_at 42 v_to a_cars)]) (C2 := mcX10_lay f_there f_marked f_trains f_step a_size a_train a_car a_place a_cars) (fun k => k - 1000 + 8) [5] rfl rfl (Nat.le_of_ble_eq_true rfl) rfl (by decide) rfl rfl rfl ?_
  refine xR_st K pq_X10_lay 9 (pc' := 21) (L' := [some (.ref 0), some (.int v_t), some (.int v_to), some (.int v_units), some (.int ((mX11_at 42 v_to a_cars) - 1)), some (.int 0), some (.int 0), some (.int 0)]) (S' := []) (C' := mcX10_lay f_there f_marked f_trains f_step a_size a_train a_car a_place a_cars) rfl trivial ?_
  exact xR_less2 (J21 _ _ _ _ (by first | rfl | omega)) ⟨rfl, rfl, rfl, rfl, rfl, rfl, rfl, rfl, trivial⟩
def pg_X10_linkOf : xPg := [(0, .iload_n 1, .null), (1, .ifCond .lt 27, .retAddr 28), (4, .iload_n 2, .null), (5, .ifCond .lt 23, .retAddr 28), (8, .iload_n 2, .null), (9, .iconst 4, .int 4), (10, .if_icmp .ge 18, .retAddr 28), (13, .aload_n 0, .null), (14, .getfield 27, .retAddr 1005), (17, .iload_n 1, .null), (18, .iconst 4, .int 4), (19, .imul, .null), (20, .iload_n 2, .null), (21, .iadd, .null), (22, .invokestatic 80, .null), (25, .goto 4, .retAddr 29), (28, .iconst (-1), .int (-1)), (29, .ireturn, .null)]
theorem pq_X10_linkOf : xPq RX10 cX10_linkOf tb_X10 pg_X10_linkOf := ⟨tab_X10, xPok_of (by decide +kernel)⟩
theorem cy_X10_linkOf : xCy yX10_linkOf cX10_linkOf 3 (some .int) := ⟨xtb_in (i := 919) (by decide +kernel) rfl, xtb_in (i := 156) (by decide +kernel) rfl, by decide +kernel, by decide +kernel⟩
theorem si_X10_linkOf : Cond.instanceMethod yX10_linkOf ∈ xtb ∧ Cond.selects yX10_linkOf.cls yX10_linkOf yX10_linkOf ∈ xtb := ⟨xtb_in (i := 917) (by decide +kernel) rfl, xtb_in (i := 918) (by decide +kernel) rfl⟩
theorem ar_X10_linkOf : xar yX10_linkOf 2 := by unfold xar; decide +kernel
def mcX10_linkOf (f_there : Int64) (f_marked : Int64) (f_trains : Int32) (f_step : Int32) (a_links : Nat → Int32) : xC := [(0, .inr (10, [.ref 1, .ref 2, .ref 3, .ref 4, .ref 5, .ref 6, .ref 7, .ref 8, .ref 9, .long f_there, .long f_marked, .int f_trains, .int f_step])), (6, .inl (0, 160, .inl a_links))]
def meX10_linkOf (f_there : Int64) (f_marked : Int64) (f_trains : Int32) (f_step : Int32) (a_links : Nat → Int32) : Int32 → xRes := fun r => some (some (.int r), mcX10_linkOf f_there f_marked f_trains f_step a_links)
def mX10_linkOf (v_t : Int32) (v_k : Int32) (a_links : Nat → Int32) : Int32 :=
  if v_t < 0 then
    ((-1) : Int32)
  else
    if v_k < 0 then
      ((-1) : Int32)
    else
      if v_k < 4 then
        mX11_at 160 ((v_t * 4) + v_k) a_links
      else
        ((-1) : Int32)
set_option maxRecDepth 100000 in
set_option maxHeartbeats 1500000 in
theorem kX10_linkOf (l : Launch) (v_t : Int32) (v_k : Int32) (f_there : Int64) (f_marked : Int64) (f_trains : Int32) (f_step : Int32) (a_links : Nat → Int32)  : xMet l 1 yX10_linkOf cX10_linkOf 3 (some .int) [.ref 0, .int v_t, .int v_k] (mcX10_linkOf f_there f_marked f_trains f_step a_links) (meX10_linkOf f_there f_marked f_trains f_step a_links (mX10_linkOf v_t v_k a_links)) := by
  refine xMet_of cy_X10_linkOf [some (.ref 0), some (.int v_t), some (.int v_k)] rfl (Nat.le_of_ble_eq_true rfl) (fun X K => ?_)
  refine xR_st K pq_X10_linkOf 1 (pc' := 1) (L' := [some (.ref 0), some (.int v_t), some (.int v_k)]) (S' := [.int v_t]) (C' := mcX10_linkOf f_there f_marked f_trains f_step a_links) rfl trivial ?_
  refine xR_i0 (enc := meX10_linkOf f_there f_marked f_trains f_step a_links) (q1 := 28) (q2 := 4) K pq_X10_linkOf rfl rfl rfl rfl (fun h1 => ?_) (fun h1 => ?_)
  · refine xR_st K pq_X10_linkOf 1 (pc' := 29) (L' := [some (.ref 0), some (.int v_t), some (.int v_k)]) (S' := [.int (-1)]) (C' := mcX10_linkOf f_there f_marked f_trains f_step a_links) rfl trivial ?_
    exact xR_ret K pq_X10_linkOf rfl
  · refine xR_st K pq_X10_linkOf 1 (pc' := 5) (L' := [some (.ref 0), some (.int v_t), some (.int v_k)]) (S' := [.int v_k]) (C' := mcX10_linkOf f_there f_marked f_trains f_step a_links) rfl trivial ?_
    refine xR_i0 (enc := meX10_linkOf f_there f_marked f_trains f_step a_links) (q1 := 28) (q2 := 8) K pq_X10_linkOf rfl rfl rfl rfl (fun h2 => ?_) (fun h2 => ?_)
    · refine xR_st K pq_X10_linkOf 1 (pc' := 29) (L' := [some (.ref 0), some (.int v_t), some (.int v_k)]) (S' := [.int (-1)]) (C' := mcX10_linkOf f_there f_marked f_trains f_step a_links) rfl trivial ?_
      exact xR_ret K pq_X10_linkOf rfl
    · refine xR_st K pq_X10_linkOf 2 (pc' := 10) (L' := [some (.ref 0), some (.int v_t), some (.int v_k)]) (S' := [.int 4, .int v_k]) (C' := mcX10_linkOf f_there f_marked f_trains f_step a_links) rfl trivial ?_
      refine xR_i2 (enc := meX10_linkOf f_there f_marked f_trains f_step a_links) (q1 := 13) (q2 := 28) K pq_X10_linkOf rfl rfl rfl rfl (fun h3 => ?_) (fun h3 => ?_)
      · refine xR_st K pq_X10_linkOf 7 (pc' := 22) (L' := [some (.ref 0), some (.int v_t), some (.int v_k)]) (S' := [.int ((v_t * 4) + v_k), .ref 6]) (C' := mcX10_linkOf f_there f_marked f_trains f_step a_links) rfl trivial ?_
        refine xR_callS3 K pq_X10_linkOf rfl lk_X10_80 cy_X11_at ss_X11_at ar_X11_at (rest := []) (kX11_at l 160 ((v_t * 4) + v_k) a_links (by first | assumption | decide | omega)) (by decide) (by decide) (S2 := [.int (mX11_at 160 ((v_t * 4) + v_k) a_links)]) (C2 := mcX10_linkOf f_there f_marked f_trains f_step a_links) (fun k => k - 1000 + 6) [1] rfl rfl (Nat.le_of_ble_eq_true rfl) rfl (by decide) rfl rfl rfl ?_
        refine xR_st K pq_X10_linkOf 1 (pc' := 29) (L' := [some (.ref 0), some (.int v_t), some (.int v_k)]) (S' := [.int (mX11_at 160 ((v_t * 4) + v_k) a_links)]) (C' := mcX10_linkOf f_there f_marked f_trains f_step a_links) rfl trivial ?_
        exact xR_ret K pq_X10_linkOf rfl
      · refine xR_st K pq_X10_linkOf 1 (pc' := 29) (L' := [some (.ref 0), some (.int v_t), some (.int v_k)]) (S' := [.int (-1)]) (C' := mcX10_linkOf f_there f_marked f_trains f_step a_links) rfl trivial ?_
        exact xR_ret K pq_X10_linkOf rfl
def pg_X10_linkedFrom : xPg := [(0, .lconst 0, .long 0), (1, .lstore_n 2, .null), (2, .iconst 0, .int 0), (3, .istore 4, .null), (5, .iload 4, .null), (7, .iconst 4, .int 4), (8, .if_icmp .ge 28, .retAddr 36), (11, .lload_n 2, .null), (12, .aload_n 0, .null), (13, .getfield 27, .retAddr 1005), (16, .iload_n 1, .null), (17, .iconst 4, .int 4), (18, .imul, .null), (19, .iload 4, .null), (21, .iadd, .null), (22, .invokestatic 80, .null), (25, .invokestatic 112, .null), (28, .lor, .null), (29, .lstore_n 2, .null), (30, .iinc 4 1, .int 1), (33, .goto (-28), .retAddr 5), (36, .lload_n 2, .null), (37, .lreturn, .null)]
theorem pq_X10_linkedFrom : xPq RX10 cX10_linkedFrom tb_X10 pg_X10_linkedFrom := ⟨tab_X10, xPok_of (by decide +kernel)⟩
theorem cy_X10_linkedFrom : xCy yX10_linkedFrom cX10_linkedFrom 5 (some .long) := ⟨xtb_in (i := 923) (by decide +kernel) rfl, xtb_in (i := 156) (by decide +kernel) rfl, by decide +kernel, by decide +kernel⟩
theorem si_X10_linkedFrom : Cond.instanceMethod yX10_linkedFrom ∈ xtb ∧ Cond.selects yX10_linkedFrom.cls yX10_linkedFrom yX10_linkedFrom ∈ xtb := ⟨xtb_in (i := 921) (by decide +kernel) rfl, xtb_in (i := 922) (by decide +kernel) rfl⟩
theorem ar_X10_linkedFrom : xar yX10_linkedFrom 1 := by unfold xar; decide +kernel
def mcX10_linkedFrom (f_there : Int64) (f_marked : Int64) (f_trains : Int32) (f_step : Int32) (a_links : Nat → Int32) : xC := [(0, .inr (10, [.ref 1, .ref 2, .ref 3, .ref 4, .ref 5, .ref 6, .ref 7, .ref 8, .ref 9, .long f_there, .long f_marked, .int f_trains, .int f_step])), (6, .inl (0, 160, .inl a_links))]
def meX10_linkedFrom (f_there : Int64) (f_marked : Int64) (f_trains : Int32) (f_step : Int32) (a_links : Nat → Int32) : Int64 → xRes := fun r => some (some (.long r), mcX10_linkedFrom f_there f_marked f_trains f_step a_links)
def mX10_linkedFrom_5 (v_t : Int32) (a_links : Nat → Int32)  : Nat → Nat → Int64 → Int64
  | 0, i5, x2_5 => x2_5
  | k5 + 1, i5, x2_5 =>
    mX10_linkedFrom_5 v_t a_links k5 (i5 + 1) (x2_5 ||| (mX11_bit (mX11_at 160 ((v_t * 4) + (nI i5)) a_links)))
def mX10_linkedFrom (v_t : Int32) (a_links : Nat → Int32) : Int64 :=
  mX10_linkedFrom_5 v_t a_links 4 0 (0 : Int64)
set_option maxRecDepth 100000 in
set_option maxHeartbeats 1500000 in
theorem kX10_linkedFrom (l : Launch) (v_t : Int32) (f_there : Int64) (f_marked : Int64) (f_trains : Int32) (f_step : Int32) (a_links : Nat → Int32)  : xMet l 1 yX10_linkedFrom cX10_linkedFrom 5 (some .long) [.ref 0, .int v_t] (mcX10_linkedFrom f_there f_marked f_trains f_step a_links) (meX10_linkedFrom f_there f_marked f_trains f_step a_links (mX10_linkedFrom v_t a_links)) := by
  refine xMet_of cy_X10_linkedFrom [some (.ref 0), some (.int v_t), none, none, none] rfl (Nat.le_of_ble_eq_true rfl) (fun X K => ?_)
  have J5 : ∀ (k5 i5 : Nat) (x2_5 : Int64) (hik5 : i5 + k5 = 4), xR X (meX10_linkedFrom f_there f_marked f_trains f_step a_links (mX10_linkedFrom_5 v_t a_links k5 i5 x2_5)) 5 [some (.ref 0), some (.int v_t), some (.long x2_5), none, some (.int (nI i5))] [] (mcX10_linkedFrom f_there f_marked f_trains f_step a_links) := by
    intro k5
    induction k5 with
    | zero =>
      intro i5 x2_5 hik5
      rw [mX10_linkedFrom_5.eq_1]
      refine xR_st K pq_X10_linkedFrom 2 (pc' := 8) (L' := [some (.ref 0), some (.int v_t), some (.long x2_5), none, some (.int (nI i5))]) (S' := [.int 4, .int (nI i5)]) (C' := mcX10_linkedFrom f_there f_marked f_trains f_step a_links) rfl trivial ?_
      refine xR_if2 K pq_X10_linkedFrom rfl ⟨rfl, rfl⟩ (fun _ => ?_) (fun hx => absurd hx (xlt_no 4 hik5 (by first | assumption | decide)))
      refine xR_st K pq_X10_linkedFrom 1 (pc' := 37) (L' := [some (.ref 0), some (.int v_t), some (.long x2_5), none, some (.int (nI i5))]) (S' := [.long x2_5]) (C' := mcX10_linkedFrom f_there f_marked f_trains f_step a_links) rfl trivial ?_
      exact xR_retl K pq_X10_linkedFrom rfl
    | succ k5 ih =>
      intro i5 x2_5 hik5
      rw [mX10_linkedFrom_5.eq_2]
      refine xR_st K pq_X10_linkedFrom 2 (pc' := 8) (L' := [some (.ref 0), some (.int v_t), some (.long x2_5), none, some (.int (nI i5))]) (S' := [.int 4, .int (nI i5)]) (C' := mcX10_linkedFrom f_there f_marked f_trains f_step a_links) rfl trivial ?_
      refine xR_if2 K pq_X10_linkedFrom rfl ⟨rfl, rfl⟩ (fun hx => absurd (xlt_yes 4 hik5 (by first | assumption | decide)) hx) (fun _ => ?_)
      refine xR_st K pq_X10_linkedFrom 8 (pc' := 22) (L' := [some (.ref 0), some (.int v_t), some (.long x2_5), none, some (.int (nI i5))]) (S' := [.int ((v_t * 4) + (nI i5)), .ref 6, .long x2_5]) (C' := mcX10_linkedFrom f_there f_marked f_trains f_step a_links) rfl trivial ?_
      refine xR_callS3 K pq_X10_linkedFrom rfl lk_X10_80 cy_X11_at ss_X11_at ar_X11_at (rest := [.long x2_5]) (kX11_at l 160 ((v_t * 4) + (nI i5)) a_links (by first | assumption | decide | omega)) (by decide) (by decide) (S2 := [.int (mX11_at 160 ((v_t * 4) + (nI i5)) a_links), .long x2_5]) (C2 := mcX10_linkedFrom f_there f_marked f_trains f_step a_links) (fun k => k - 1000 + 6) [1] rfl rfl (Nat.le_of_ble_eq_true rfl) rfl (by decide) rfl rfl rfl ?_
      refine xR_callS3 K pq_X10_linkedFrom rfl lk_X10_112 cy_X11_bit ss_X11_bit ar_X11_bit (rest := [.long x2_5]) (kX11_bit l (mX11_at 160 ((v_t * 4) + (nI i5)) a_links)) (by decide) (by decide) (S2 := [.long (mX11_bit (mX11_at 160 ((v_t * 4) + (nI i5)) a_links)), .long x2_5]) (C2 := mcX10_linkedFrom f_there f_marked f_trains f_step a_links) id [] rfl rfl (Nat.le_of_ble_eq_true rfl) rfl (by decide) rfl rfl rfl ?_
      refine xR_st K pq_X10_linkedFrom 4 (pc' := 5) (L' := [some (.ref 0), some (.int v_t), some (.long (x2_5 ||| (mX11_bit (mX11_at 160 ((v_t * 4) + (nI i5)) a_links)))), none, some (.int ((nI i5) + 1))]) (S' := []) (C' := mcX10_linkedFrom f_there f_marked f_trains f_step a_links) rfl trivial ?_
      exact xR_less2 (ih (i5 + 1) _ (by omega)) ⟨rfl, rfl, rfl, xcnt i5, trivial⟩
  refine xR_st K pq_X10_linkedFrom 4 (pc' := 5) (L' := [some (.ref 0), some (.int v_t), some (.long 0), none, some (.int 0)]) (S' := []) (C' := mcX10_linkedFrom f_there f_marked f_trains f_step a_links) rfl trivial ?_
  exact xR_less2 (J5 _ _ _ (by first | rfl | omega)) ⟨rfl, rfl, rfl, rfl, trivial⟩
def pg_X10_point : xPg := [(0, .aload_n 0, .null), (1, .iload_n 1, .null), (2, .iload_n 2, .null), (3, .invokevirtual 121, .null), (6, .istore 4, .null), (8, .aload_n 0, .null), (9, .getfield 27, .retAddr 1005), (12, .iload_n 1, .null), (13, .iconst 4, .int 4), (14, .imul, .null), (15, .iload_n 2, .null), (16, .iadd, .null), (17, .iload_n 3, .null), (18, .invokestatic 108, .null), (21, .iload 4, .null), (23, .iconst (-1), .int (-1)), (24, .if_icmp .eq 43, .retAddr 67), (27, .aload_n 0, .null), (28, .iload_n 1, .null), (29, .invokevirtual 125, .null), (32, .iload 4, .null), (34, .invokestatic 104, .null), (37, .ifCond .ne 30, .retAddr 67), (40, .aload_n 0, .null), (41, .getfield 36, .retAddr 1008), (44, .iload 4, .null), (46, .aload_n 0, .null), (47, .getfield 36, .retAddr 1008), (50, .iload 4, .null), (52, .invokestatic 128, .null), (55, .iload_n 1, .null), (56, .invokestatic 112, .null), (59, .ldc2_w 116, .long (-1)), (62, .lxor, .null), (63, .land, .null), (64, .invokestatic 132, .null), (67, .aload_n 0, .null), (68, .getfield 36, .retAddr 1008), (71, .iload_n 3, .null), (72, .aload_n 0, .null), (73, .getfield 36, .retAddr 1008), (76, .iload_n 3, .null), (77, .invokestatic 128, .null), (80, .iload_n 1, .null), (81, .invokestatic 112, .null), (84, .lor, .null), (85, .invokestatic 132, .null), (88, .return_, .null)]
theorem pq_X10_point : xPq RX10 cX10_point tb_X10 pg_X10_point := ⟨tab_X10, xPok_of (by decide +kernel)⟩
theorem cy_X10_point : xCy yX10_point cX10_point 5 none := ⟨xtb_in (i := 915) (by decide +kernel) rfl, xtb_in (i := 156) (by decide +kernel) rfl, by decide +kernel, by decide +kernel⟩
theorem si_X10_point : Cond.instanceMethod yX10_point ∈ xtb ∧ Cond.selects yX10_point.cls yX10_point yX10_point ∈ xtb := ⟨xtb_in (i := 913) (by decide +kernel) rfl, xtb_in (i := 914) (by decide +kernel) rfl⟩
theorem ar_X10_point : xar yX10_point 3 := by unfold xar; decide +kernel
def mcX10_point (f_there : Int64) (f_marked : Int64) (f_trains : Int32) (f_step : Int32) (a_links : Nat → Int32) (a_from : Nat → Int64) : xC := [(0, .inr (10, [.ref 1, .ref 2, .ref 3, .ref 4, .ref 5, .ref 6, .ref 7, .ref 8, .ref 9, .long f_there, .long f_marked, .int f_trains, .int f_step])), (6, .inl (0, 160, .inl a_links)), (9, .inl (1, 40, .inr (.inl a_from)))]
def meX10_point (f_there : Int64) (f_marked : Int64) (f_trains : Int32) (f_step : Int32) (a_links : Nat → Int32) (a_from : Nat → Int64) : (Nat → Int32) × (Nat → Int64) → xRes := fun r => some (none, mcX10_point f_there f_marked f_trains f_step r.1 r.2)
def mX10_point_67 (v_t : Int32) (v_to : Int32)  (a_links_67 : Nat → Int32) (a_from_67 : Nat → Int64) : (Nat → Int32) × (Nat → Int64) :=
  xlet (mX11_putMask 40 v_to ((mX11_maskAt 40 v_to a_from_67) ||| (mX11_bit v_t)) a_from_67) (fun q5 =>
    (a_links_67, q5))
def mX10_point (v_t : Int32) (v_k : Int32) (v_to : Int32) (a_links : Nat → Int32) (a_from : Nat → Int64) : (Nat → Int32) × (Nat → Int64) :=
  xlet (mX11_put 160 ((v_t * 4) + v_k) v_to a_links) (fun q1 =>
    if (mX10_linkOf v_t v_k a_links) = (-1) then
      mX10_point_67 v_t v_to q1 a_from
    else
      if (mX11_in (mX10_linkedFrom v_t q1) (mX10_linkOf v_t v_k a_links)) = true then
        mX10_point_67 v_t v_to q1 a_from
      else
        xlet (mX11_putMask 40 (mX10_linkOf v_t v_k a_links) ((mX11_maskAt 40 (mX10_linkOf v_t v_k a_links) a_from) &&& ((mX11_bit v_t) ^^^ (-1))) a_from) (fun q4 =>
          mX10_point_67 v_t v_to q1 q4))
set_option maxRecDepth 100000 in
set_option maxHeartbeats 1500000 in
theorem kX10_point (l : Launch) (v_t : Int32) (v_k : Int32) (v_to : Int32) (f_there : Int64) (f_marked : Int64) (f_trains : Int32) (f_step : Int32) (a_links : Nat → Int32) (a_from : Nat → Int64)  : xMet l 2 yX10_point cX10_point 5 none [.ref 0, .int v_t, .int v_k, .int v_to] (mcX10_point f_there f_marked f_trains f_step a_links a_from) (meX10_point f_there f_marked f_trains f_step a_links a_from (mX10_point v_t v_k v_to a_links a_from)) := by
  refine xMet_of cy_X10_point [some (.ref 0), some (.int v_t), some (.int v_k), some (.int v_to), none] rfl (Nat.le_of_ble_eq_true rfl) (fun X K => ?_)
  have J67 : ∀ (a_links_67 : Nat → Int32) (a_from_67 : Nat → Int64), xR X (meX10_point f_there f_marked f_trains f_step a_links a_from (mX10_point_67 v_t v_to a_links_67 a_from_67)) 67 [some (.ref 0), some (.int v_t), none, some (.int v_to), none] [] (mcX10_point f_there f_marked f_trains f_step a_links_67 a_from_67) := by
    intro a_links_67 a_from_67
    refine xR_st K pq_X10_point 6 (pc' := 77) (L' := [some (.ref 0), some (.int v_t), none, some (.int v_to), none]) (S' := [.int v_to, .ref 9, .int v_to, .ref 9]) (C' := mcX10_point f_there f_marked f_trains f_step a_links_67 a_from_67) rfl trivial ?_
    refine xR_callS3 K pq_X10_point rfl lk_X10_128 cy_X11_maskAt ss_X11_maskAt ar_X11_maskAt (rest := [.int v_to, .ref 9]) (kX11_maskAt l 40 v_to a_from_67 (by first | assumption | decide | omega)) (by decide) (by decide) (S2 := [.long (mX11_maskAt 40 v_to a_from_67), .int v_to, .ref 9]) (C2 := mcX10_point f_there f_marked f_trains f_step a_links_67 a_from_67) (fun k => k - 1000 + 9) [2] rfl rfl (Nat.le_of_ble_eq_true rfl) rfl (by decide) rfl rfl rfl ?_
    refine xR_st K pq_X10_point 1 (pc' := 81) (L' := [some (.ref 0), some (.int v_t), none, some (.int v_to), none]) (S' := [.int v_t, .long (mX11_maskAt 40 v_to a_from_67), .int v_to, .ref 9]) (C' := mcX10_point f_there f_marked f_trains f_step a_links_67 a_from_67) rfl trivial ?_
    refine xR_callS3 K pq_X10_point rfl lk_X10_112 cy_X11_bit ss_X11_bit ar_X11_bit (rest := [.long (mX11_maskAt 40 v_to a_from_67), .int v_to, .ref 9]) (kX11_bit l v_t) (by decide) (by decide) (S2 := [.long (mX11_bit v_t), .long (mX11_maskAt 40 v_to a_from_67), .int v_to, .ref 9]) (C2 := mcX10_point f_there f_marked f_trains f_step a_links_67 a_from_67) id [] rfl rfl (Nat.le_of_ble_eq_true rfl) rfl (by decide) rfl rfl rfl ?_
    refine xR_st K pq_X10_point 1 (pc' := 85) (L' := [some (.ref 0), some (.int v_t), none, some (.int v_to), none]) (S' := [.long ((mX11_maskAt 40 v_to a_from_67) ||| (mX11_bit v_t)), .int v_to, .ref 9]) (C' := mcX10_point f_there f_marked f_trains f_step a_links_67 a_from_67) rfl trivial ?_
    refine xR_let (enc := meX10_point f_there f_marked f_trains f_step a_links a_from) (fun q5 hq5 => ?_)
    have hMq5 := kX11_putMask l 40 v_to ((mX11_maskAt 40 v_to a_from_67) ||| (mX11_bit v_t)) a_from_67 (by first | assumption | decide | omega)
    rw [← hq5] at hMq5
    refine xR_callS3 K pq_X10_point rfl lk_X10_132 cy_X11_putMask ss_X11_putMask ar_X11_putMask (rest := []) hMq5 (by decide) (by decide) (S2 := []) (C2 := mcX10_point f_there f_marked f_trains f_step a_links_67 q5) (fun k => k - 1000 + 9) [2] rfl rfl (Nat.le_of_ble_eq_true rfl) rfl (by decide) rfl rfl rfl ?_
    exact xR_retv K pq_X10_point rfl
  refine xR_st K pq_X10_point 3 (pc' := 3) (L' := [some (.ref 0), some (.int v_t), some (.int v_k), some (.int v_to), none]) (S' := [.int v_k, .int v_t, .ref 0]) (C' := mcX10_point f_there f_marked f_trains f_step a_links a_from) rfl trivial ?_
  refine xR_callV3 K pq_X10_point rfl lk_X10_121 cy_X10_linkOf si_X10_linkOf ar_X10_linkOf (rest := []) (kX10_linkOf l v_t v_k f_there f_marked f_trains f_step a_links) (by decide) (by decide) rfl rfl (S2 := [.int (mX10_linkOf v_t v_k a_links)]) (C2 := mcX10_point f_there f_marked f_trains f_step a_links a_from) id [0, 1] rfl rfl (Nat.le_of_ble_eq_true rfl) rfl (by decide) rfl rfl rfl ?_
  refine xR_st K pq_X10_point 9 (pc' := 18) (L' := [some (.ref 0), some (.int v_t), some (.int v_k), some (.int v_to), some (.int (mX10_linkOf v_t v_k a_links))]) (S' := [.int v_to, .int ((v_t * 4) + v_k), .ref 6]) (C' := mcX10_point f_there f_marked f_trains f_step a_links a_from) rfl trivial ?_
  refine xR_let (enc := meX10_point f_there f_marked f_trains f_step a_links a_from) (fun q1 hq1 => ?_)
  have hMq1 := kX11_put l 160 ((v_t * 4) + v_k) v_to a_links (by first | assumption | decide | omega)
  rw [← hq1] at hMq1
  refine xR_callS3 K pq_X10_point rfl lk_X10_108 cy_X11_put ss_X11_put ar_X11_put (rest := []) hMq1 (by decide) (by decide) (S2 := []) (C2 := mcX10_point f_there f_marked f_trains f_step q1 a_from) (fun k => k - 1000 + 6) [1] rfl rfl (Nat.le_of_ble_eq_true rfl) rfl (by decide) rfl rfl rfl ?_
  refine xR_st K pq_X10_point 2 (pc' := 24) (L' := [some (.ref 0), some (.int v_t), some (.int v_k), some (.int v_to), some (.int (mX10_linkOf v_t v_k a_links))]) (S' := [.int (-1), .int (mX10_linkOf v_t v_k a_links)]) (C' := mcX10_point f_there f_marked f_trains f_step q1 a_from) rfl trivial ?_
  refine xR_i2 (enc := meX10_point f_there f_marked f_trains f_step a_links a_from) (q1 := 67) (q2 := 27) K pq_X10_point rfl rfl rfl rfl (fun h2 => ?_) (fun h2 => ?_)
  · exact xR_less2 (J67 _ _) ⟨rfl, rfl, rfl, trivial⟩
  · refine xR_st K pq_X10_point 2 (pc' := 29) (L' := [some (.ref 0), some (.int v_t), some (.int v_k), some (.int v_to), some (.int (mX10_linkOf v_t v_k a_links))]) (S' := [.int v_t, .ref 0]) (C' := mcX10_point f_there f_marked f_trains f_step q1 a_from) rfl trivial ?_
    refine xR_callV3 K pq_X10_point rfl lk_X10_125 cy_X10_linkedFrom si_X10_linkedFrom ar_X10_linkedFrom (rest := []) (kX10_linkedFrom l v_t f_there f_marked f_trains f_step q1) (by decide) (by decide) rfl rfl (S2 := [.long (mX10_linkedFrom v_t q1)]) (C2 := mcX10_point f_there f_marked f_trains f_step q1 a_from) id [0, 1] rfl rfl (Nat.le_of_ble_eq_true rfl) rfl (by decide) rfl rfl rfl ?_
    refine xR_st K pq_X10_point 1 (pc' := 34) (L' := [some (.ref 0), some (.int v_t), some (.int v_k), some (.int v_to), some (.int (mX10_linkOf v_t v_k a_links))]) (S' := [.int (mX10_linkOf v_t v_k a_links), .long (mX10_linkedFrom v_t q1)]) (C' := mcX10_point f_there f_marked f_trains f_step q1 a_from) rfl trivial ?_
    refine xR_callS3 K pq_X10_point rfl lk_X10_104 cy_X11_in ss_X11_in ar_X11_in (rest := []) (kX11_in l (mX10_linkedFrom v_t q1) (mX10_linkOf v_t v_k a_links)) (by decide) (by decide) (S2 := [.int (xb (mX11_in (mX10_linkedFrom v_t q1) (mX10_linkOf v_t v_k a_links)))]) (C2 := mcX10_point f_there f_marked f_trains f_step q1 a_from) id [] rfl rfl (Nat.le_of_ble_eq_true rfl) rfl (by decide) rfl rfl rfl ?_
    refine xR_ib (enc := meX10_point f_there f_marked f_trains f_step a_links a_from) (q1 := 67) (q2 := 40) K pq_X10_point rfl (by first | exact Or.inl rfl | exact Or.inr rfl) rfl rfl (fun h3 => ?_) (fun h3 => ?_)
    · exact xR_less2 (J67 _ _) ⟨rfl, rfl, rfl, trivial⟩
    · refine xR_st K pq_X10_point 6 (pc' := 52) (L' := [some (.ref 0), some (.int v_t), some (.int v_k), some (.int v_to), some (.int (mX10_linkOf v_t v_k a_links))]) (S' := [.int (mX10_linkOf v_t v_k a_links), .ref 9, .int (mX10_linkOf v_t v_k a_links), .ref 9]) (C' := mcX10_point f_there f_marked f_trains f_step q1 a_from) rfl trivial ?_
      refine xR_callS3 K pq_X10_point rfl lk_X10_128 cy_X11_maskAt ss_X11_maskAt ar_X11_maskAt (rest := [.int (mX10_linkOf v_t v_k a_links), .ref 9]) (kX11_maskAt l 40 (mX10_linkOf v_t v_k a_links) a_from (by first | assumption | decide | omega)) (by decide) (by decide) (S2 := [.long (mX11_maskAt 40 (mX10_linkOf v_t v_k a_links) a_from), .int (mX10_linkOf v_t v_k a_links), .ref 9]) (C2 := mcX10_point f_there f_marked f_trains f_step q1 a_from) (fun k => k - 1000 + 9) [2] rfl rfl (Nat.le_of_ble_eq_true rfl) rfl (by decide) rfl rfl rfl ?_
      refine xR_st K pq_X10_point 1 (pc' := 56) (L' := [some (.ref 0), some (.int v_t), some (.int v_k), some (.int v_to), some (.int (mX10_linkOf v_t v_k a_links))]) (S' := [.int v_t, .long (mX11_maskAt 40 (mX10_linkOf v_t v_k a_links) a_from), .int (mX10_linkOf v_t v_k a_links), .ref 9]) (C' := mcX10_point f_there f_marked f_trains f_step q1 a_from) rfl trivial ?_
      refine xR_callS3 K pq_X10_point rfl lk_X10_112 cy_X11_bit ss_X11_bit ar_X11_bit (rest := [.long (mX11_maskAt 40 (mX10_linkOf v_t v_k a_links) a_from), .int (mX10_linkOf v_t v_k a_links), .ref 9]) (kX11_bit l v_t) (by decide) (by decide) (S2 := [.long (mX11_bit v_t), .long (mX11_maskAt 40 (mX10_linkOf v_t v_k a_links) a_from), .int (mX10_linkOf v_t v_k a_links), .ref 9]) (C2 := mcX10_point f_there f_marked f_trains f_step q1 a_from) id [] rfl rfl (Nat.le_of_ble_eq_true rfl) rfl (by decide) rfl rfl rfl ?_
      refine xR_st K pq_X10_point 3 (pc' := 64) (L' := [some (.ref 0), some (.int v_t), some (.int v_k), some (.int v_to), some (.int (mX10_linkOf v_t v_k a_links))]) (S' := [.long ((mX11_maskAt 40 (mX10_linkOf v_t v_k a_links) a_from) &&& ((mX11_bit v_t) ^^^ (-1))), .int (mX10_linkOf v_t v_k a_links), .ref 9]) (C' := mcX10_point f_there f_marked f_trains f_step q1 a_from) rfl trivial ?_
      refine xR_let (enc := meX10_point f_there f_marked f_trains f_step a_links a_from) (fun q4 hq4 => ?_)
      have hMq4 := kX11_putMask l 40 (mX10_linkOf v_t v_k a_links) ((mX11_maskAt 40 (mX10_linkOf v_t v_k a_links) a_from) &&& ((mX11_bit v_t) ^^^ (-1))) a_from (by first | assumption | decide | omega)
      rw [← hq4] at hMq4
      refine xR_callS3 K pq_X10_point rfl lk_X10_132 cy_X11_putMask ss_X11_putMask ar_X11_putMask (rest := []) hMq4 (by decide) (by decide) (S2 := []) (C2 := mcX10_point f_there f_marked f_trains f_step q1 q4) (fun k => k - 1000 + 9) [2] rfl rfl (Nat.le_of_ble_eq_true rfl) rfl (by decide) rfl rfl rfl ?_
      exact xR_less2 (J67 _ _) ⟨rfl, rfl, rfl, trivial⟩
def pg_X10_settle : xPg := [(0, .aload_n 0, .null), (1, .invokevirtual 69, .null), (4, .iconst 0, .int 0), (5, .istore_n 2, .null), (6, .iload_n 2, .null), (7, .aload_n 1, .null), (8, .getfield 72, .retAddr 703), (11, .if_icmp .ge 62, .retAddr 73), (14, .iload_n 2, .null), (15, .bipush 24, .int 24), (17, .if_icmp .ge 56, .retAddr 73), (20, .iload_n 2, .null), (21, .ifCond .eq 14, .retAddr 35), (24, .aload_n 1, .null), (25, .getfield 77, .retAddr 708), (28, .iload_n 2, .null), (29, .invokestatic 80, .null), (32, .ifCond .eq 7, .retAddr 39), (35, .aload_n 0, .null), (36, .invokevirtual 84, .null), (39, .aload_n 0, .null), (40, .iload_n 2, .null), (41, .aload_n 1, .null), (42, .getfield 87, .retAddr 707), (45, .iload_n 2, .null), (46, .invokestatic 80, .null), (49, .invokevirtual 88, .null), (52, .aload_n 0, .null), (53, .iload_n 2, .null), (54, .aload_n 0, .null), (55, .getfield 56, .retAddr 1011), (58, .iconst 1, .int 1), (59, .isub, .null), (60, .aload_n 1, .null), (61, .getfield 92, .retAddr 700), (64, .invokevirtual 95, .null), (67, .iinc 2 1, .int 1), (70, .goto (-64), .retAddr 6), (73, .iconst 0, .int 0), (74, .istore_n 2, .null), (75, .iload_n 2, .null), (76, .aload_n 1, .null), (77, .getfield 72, .retAddr 703), (80, .if_icmp .ge 46, .retAddr 126), (83, .iload_n 2, .null), (84, .bipush 24, .int 24), (86, .if_icmp .ge 40, .retAddr 126), (89, .iconst 0, .int 0), (90, .istore_n 3, .null), (91, .iload_n 3, .null), (92, .iconst 4, .int 4), (93, .if_icmp .ge 27, .retAddr 120), (96, .aload_n 0, .null), (97, .iload_n 2, .null), (98, .iload_n 3, .null), (99, .aload_n 1, .null), (100, .getfield 99, .retAddr 710), (103, .iload_n 2, .null), (104, .iconst 4, .int 4), (105, .imul, .null), (106, .iload_n 3, .null), (107, .iadd, .null), (108, .invokestatic 80, .null), (111, .invokevirtual 100, .null), (114, .iinc 3 1, .int 1), (117, .goto (-26), .retAddr 91), (120, .iinc 2 1, .int 1), (123, .goto (-48), .retAddr 75), (126, .aload_n 1, .null), (127, .getfield 103, .retAddr 711), (130, .iconst 0, .int 0), (131, .aload_n 0, .null), (132, .getfield 30, .retAddr 1006), (135, .iconst 0, .int 0), (136, .bipush 8, .int 8), (138, .invokestatic 63, .null), (141, .return_, .null)]
theorem pq_X10_settle : xPq RX10 cX10_settle tb_X10 pg_X10_settle := ⟨tab_X10, xPok_of (by decide +kernel)⟩
theorem cy_X10_settle : xCy yX10_settle cX10_settle 4 none := ⟨xtb_in (i := 887) (by decide +kernel) rfl, xtb_in (i := 156) (by decide +kernel) rfl, by decide +kernel, by decide +kernel⟩
theorem si_X10_settle : Cond.instanceMethod yX10_settle ∈ xtb ∧ Cond.selects yX10_settle.cls yX10_settle yX10_settle ∈ xtb := ⟨xtb_in (i := 885) (by decide +kernel) rfl, xtb_in (i := 886) (by decide +kernel) rfl⟩
theorem ar_X10_settle : xar yX10_settle 1 := by unfold xar; decide +kernel
def mcX10_settle (f_there : Int64) (f_marked : Int64) (f_trains : Int32) (f_step : Int32) (a_size : Nat → Int32) (a_age : Nat → Int32) (a_train : Nat → Int32) (a_car : Nat → Int32) (a_place : Nat → Int32) (a_links : Nat → Int32) (a_roots : Nat → Int32) (a_cars : Nat → Int32) (a_from : Nat → Int64) (plan_f_units : Int32) (plan_f_churn : Int32) (plan_f_statements : Int32) (plan_f_things : Int32) (plan_f_rootsTold : Int32) (plan_f_codes : Int32) (plan_a_size : Nat → Int32) (plan_a_begins : Nat → Int32) (plan_a_links : Nat → Int32) (plan_a_roots : Nat → Int32) : xC := [(0, .inr (10, [.ref 1, .ref 2, .ref 3, .ref 4, .ref 5, .ref 6, .ref 7, .ref 8, .ref 9, .long f_there, .long f_marked, .int f_trains, .int f_step])), (1, .inl (0, 40, .inl a_size)), (2, .inl (0, 40, .inl a_age)), (3, .inl (0, 40, .inl a_train)), (4, .inl (0, 40, .inl a_car)), (5, .inl (0, 40, .inl a_place)), (6, .inl (0, 160, .inl a_links)), (7, .inl (0, 8, .inl a_roots)), (8, .inl (0, 42, .inl a_cars)), (9, .inl (1, 40, .inr (.inl a_from))), (1000, .inr (7, [.int plan_f_units, .int plan_f_churn, .int plan_f_statements, .int plan_f_things, .int plan_f_rootsTold, .int plan_f_codes, .ref 1001, .ref 1002, .ref 1003, .ref 1004, .ref 1005, .ref 1006, .ref 1007, .ref 1008, .ref 1009])), (1002, .inl (0, 24, .inl plan_a_size)), (1003, .inl (0, 24, .inl plan_a_begins)), (1005, .inl (0, 96, .inl plan_a_links)), (1006, .inl (0, 8, .inl plan_a_roots))]
def meX10_settle (f_there : Int64) (f_marked : Int64) (f_trains : Int32) (f_step : Int32) (a_size : Nat → Int32) (a_age : Nat → Int32) (a_train : Nat → Int32) (a_car : Nat → Int32) (a_place : Nat → Int32) (a_links : Nat → Int32) (a_roots : Nat → Int32) (a_cars : Nat → Int32) (a_from : Nat → Int64) (plan_f_units : Int32) (plan_f_churn : Int32) (plan_f_statements : Int32) (plan_f_things : Int32) (plan_f_rootsTold : Int32) (plan_f_codes : Int32) (plan_a_size : Nat → Int32) (plan_a_begins : Nat → Int32) (plan_a_links : Nat → Int32) (plan_a_roots : Nat → Int32) : Int64 × Int64 × Int32 × Int32 × (Nat → Int32) × (Nat → Int32) × (Nat → Int32) × (Nat → Int32) × (Nat → Int32) × (Nat → Int32) × (Nat → Int32) × (Nat → Int32) × (Nat → Int64) → xRes := fun r => some (none, mcX10_settle r.1 r.2.1 r.2.2.1 r.2.2.2.1 r.2.2.2.2.1 r.2.2.2.2.2.1 r.2.2.2.2.2.2.1 r.2.2.2.2.2.2.2.1 r.2.2.2.2.2.2.2.2.1 r.2.2.2.2.2.2.2.2.2.1 r.2.2.2.2.2.2.2.2.2.2.1 r.2.2.2.2.2.2.2.2.2.2.2.1 r.2.2.2.2.2.2.2.2.2.2.2.2 plan_f_units plan_f_churn plan_f_statements plan_f_things plan_f_rootsTold plan_f_codes plan_a_size plan_a_begins plan_a_links plan_a_roots)
def mX10_settle_126 (plan_a_roots : Nat → Int32)  (f_there_126 : Int64) (f_marked_126 : Int64) (f_trains_126 : Int32) (f_step_126 : Int32) (a_size_126 : Nat → Int32) (a_age_126 : Nat → Int32) (a_train_126 : Nat → Int32) (a_car_126 : Nat → Int32) (a_place_126 : Nat → Int32) (a_links_126 : Nat → Int32) (a_roots_126 : Nat → Int32) (a_cars_126 : Nat → Int32) (a_from_126 : Nat → Int64) : Int64 × Int64 × Int32 × Int32 × (Nat → Int32) × (Nat → Int32) × (Nat → Int32) × (Nat → Int32) × (Nat → Int32) × (Nat → Int32) × (Nat → Int32) × (Nat → Int32) × (Nat → Int64) :=
  (f_there_126, f_marked_126, f_trains_126, f_step_126, a_size_126, a_age_126, a_train_126, a_car_126, a_place_126, a_links_126, va_cpy plan_a_roots a_roots_126 0 0 8, a_cars_126, a_from_126)
def mX10_settle_91 (plan_a_links : Nat → Int32) (a_age_75 : Nat → Int32) (a_car_75 : Nat → Int32) (a_cars_75 : Nat → Int32) (a_place_75 : Nat → Int32) (a_roots_75 : Nat → Int32) (a_size_75 : Nat → Int32) (a_train_75 : Nat → Int32) (f_marked_75 : Int64) (f_step_75 : Int32) (f_there_75 : Int64) (f_trains_75 : Int32) (i75 : Nat) (K75 : Int64 → Int64 → Int32 → Int32 → (Nat → Int32) → (Nat → Int32) → (Nat → Int32) → (Nat → Int32) → (Nat → Int32) → (Nat → Int32) → (Nat → Int32) → (Nat → Int32) → (Nat → Int64) → Int64 × Int64 × Int32 × Int32 × (Nat → Int32) × (Nat → Int32) × (Nat → Int32) × (Nat → Int32) × (Nat → Int32) × (Nat → Int32) × (Nat → Int32) × (Nat → Int32) × (Nat → Int64)) : Nat → Nat → (Nat → Int32) → (Nat → Int64) → Int64 × Int64 × Int32 × Int32 × (Nat → Int32) × (Nat → Int32) × (Nat → Int32) × (Nat → Int32) × (Nat → Int32) × (Nat → Int32) × (Nat → Int32) × (Nat → Int32) × (Nat → Int64)
  | 0, i91, a_links_91, a_from_91 => K75 f_there_75 f_marked_75 f_trains_75 f_step_75 a_size_75 a_age_75 a_train_75 a_car_75 a_place_75 a_links_91 a_roots_75 a_cars_75 a_from_91
  | k91 + 1, i91, a_links_91, a_from_91 =>
    xlet (mX10_point (nI i75) (nI i91) (mX11_at 96 (((nI i75) * 4) + (nI i91)) plan_a_links) a_links_91 a_from_91) (xu fun q11_1 => fun q11_2 =>
      mX10_settle_91 plan_a_links a_age_75 a_car_75 a_cars_75 a_place_75 a_roots_75 a_size_75 a_train_75 f_marked_75 f_step_75 f_there_75 f_trains_75 i75 K75 k91 (i91 + 1) q11_1 q11_2)
def mX10_settle_75 (plan_f_things : Int32) (plan_a_links : Nat → Int32) (plan_a_roots : Nat → Int32)  : Nat → Nat → Int64 → Int64 → Int32 → Int32 → (Nat → Int32) → (Nat → Int32) → (Nat → Int32) → (Nat → Int32) → (Nat → Int32) → (Nat → Int32) → (Nat → Int32) → (Nat → Int32) → (Nat → Int64) → Int64 × Int64 × Int32 × Int32 × (Nat → Int32) × (Nat → Int32) × (Nat → Int32) × (Nat → Int32) × (Nat → Int32) × (Nat → Int32) × (Nat → Int32) × (Nat → Int32) × (Nat → Int64)
  | 0, i75, f_there_75, f_marked_75, f_trains_75, f_step_75, a_size_75, a_age_75, a_train_75, a_car_75, a_place_75, a_links_75, a_roots_75, a_cars_75, a_from_75 => if (nI i75) < plan_f_things then
      mX10_settle_126 plan_a_roots f_there_75 f_marked_75 f_trains_75 f_step_75 a_size_75 a_age_75 a_train_75 a_car_75 a_place_75 a_links_75 a_roots_75 a_cars_75 a_from_75
    else
      mX10_settle_126 plan_a_roots f_there_75 f_marked_75 f_trains_75 f_step_75 a_size_75 a_age_75 a_train_75 a_car_75 a_place_75 a_links_75 a_roots_75 a_cars_75 a_from_75
  | k75 + 1, i75, f_there_75, f_marked_75, f_trains_75, f_step_75, a_size_75, a_age_75, a_train_75, a_car_75, a_place_75, a_links_75, a_roots_75, a_cars_75, a_from_75 =>
    if (nI i75) < plan_f_things then
      mX10_settle_91 plan_a_links a_age_75 a_car_75 a_cars_75 a_place_75 a_roots_75 a_size_75 a_train_75 f_marked_75 f_step_75 f_there_75 f_trains_75 i75 (fun zf_there_75 zf_marked_75 zf_trains_75 zf_step_75 za_size_75 za_age_75 za_train_75 za_car_75 za_place_75 za_links_75 za_roots_75 za_cars_75 za_from_75 => mX10_settle_75 plan_f_things plan_a_links plan_a_roots k75 (i75 + 1) zf_there_75 zf_marked_75 zf_trains_75 zf_step_75 za_size_75 za_age_75 za_train_75 za_car_75 za_place_75 za_links_75 za_roots_75 za_cars_75 za_from_75) 4 0 a_links_75 a_from_75
    else
      mX10_settle_126 plan_a_roots f_there_75 f_marked_75 f_trains_75 f_step_75 a_size_75 a_age_75 a_train_75 a_car_75 a_place_75 a_links_75 a_roots_75 a_cars_75 a_from_75
def mX10_settle_39 (plan_f_units : Int32) (plan_a_size : Nat → Int32) (a_age_6 : Nat → Int32) (a_car_6 : Nat → Int32) (a_from_6 : Nat → Int64) (a_links_6 : Nat → Int32) (a_place_6 : Nat → Int32) (a_roots_6 : Nat → Int32) (a_size_6 : Nat → Int32) (a_train_6 : Nat → Int32) (f_marked_6 : Int64) (f_step_6 : Int32) (f_there_6 : Int64) (i6 : Nat) (K6 : Int64 → Int64 → Int32 → Int32 → (Nat → Int32) → (Nat → Int32) → (Nat → Int32) → (Nat → Int32) → (Nat → Int32) → (Nat → Int32) → (Nat → Int32) → (Nat → Int32) → (Nat → Int64) → Int64 × Int64 × Int32 × Int32 × (Nat → Int32) × (Nat → Int32) × (Nat → Int32) × (Nat → Int32) × (Nat → Int32) × (Nat → Int32) × (Nat → Int32) × (Nat → Int32) × (Nat → Int64)) (f_trains_39 : Int32) (a_cars_39 : Nat → Int32) : Int64 × Int64 × Int32 × Int32 × (Nat → Int32) × (Nat → Int32) × (Nat → Int32) × (Nat → Int32) × (Nat → Int32) × (Nat → Int32) × (Nat → Int32) × (Nat → Int32) × (Nat → Int64) :=
  xlet (mX10_add (nI i6) (mX11_at 24 (nI i6) plan_a_size) f_there_6 a_size_6 a_age_6) (xu fun q7_1 => xu fun q7_2 => fun q7_3 =>
    xlet (mX10_lay (nI i6) (f_trains_39 - 1) plan_f_units q7_2 a_train_6 a_car_6 a_place_6 a_cars_39) (xu fun q8_1 => xu fun q8_2 => xu fun q8_3 => fun q8_4 =>
      K6 q7_1 f_marked_6 f_trains_39 f_step_6 q7_2 q7_3 q8_1 q8_2 q8_3 a_links_6 a_roots_6 q8_4 a_from_6))
def mX10_settle_35 (plan_f_units : Int32) (plan_a_size : Nat → Int32) (a_age_6 : Nat → Int32) (a_car_6 : Nat → Int32) (a_cars_6 : Nat → Int32) (a_from_6 : Nat → Int64) (a_links_6 : Nat → Int32) (a_place_6 : Nat → Int32) (a_roots_6 : Nat → Int32) (a_size_6 : Nat → Int32) (a_train_6 : Nat → Int32) (f_marked_6 : Int64) (f_step_6 : Int32) (f_there_6 : Int64) (f_trains_6 : Int32) (i6 : Nat) (K6 : Int64 → Int64 → Int32 → Int32 → (Nat → Int32) → (Nat → Int32) → (Nat → Int32) → (Nat → Int32) → (Nat → Int32) → (Nat → Int32) → (Nat → Int32) → (Nat → Int32) → (Nat → Int64) → Int64 × Int64 × Int32 × Int32 × (Nat → Int32) × (Nat → Int32) × (Nat → Int32) × (Nat → Int32) × (Nat → Int32) × (Nat → Int32) × (Nat → Int32) × (Nat → Int32) × (Nat → Int64))  : Int64 × Int64 × Int32 × Int32 × (Nat → Int32) × (Nat → Int32) × (Nat → Int32) × (Nat → Int32) × (Nat → Int32) × (Nat → Int32) × (Nat → Int32) × (Nat → Int32) × (Nat → Int64) :=
  xlet (mX10_beginTrain f_trains_6 a_cars_6) (xu fun q6_1 => fun q6_2 =>
    mX10_settle_39 plan_f_units plan_a_size a_age_6 a_car_6 a_from_6 a_links_6 a_place_6 a_roots_6 a_size_6 a_train_6 f_marked_6 f_step_6 f_there_6 i6 K6 q6_1 q6_2)
def mX10_settle_6 (plan_f_units : Int32) (plan_f_things : Int32) (plan_a_size : Nat → Int32) (plan_a_begins : Nat → Int32) (plan_a_links : Nat → Int32) (plan_a_roots : Nat → Int32)  : Nat → Nat → Int64 → Int64 → Int32 → Int32 → (Nat → Int32) → (Nat → Int32) → (Nat → Int32) → (Nat → Int32) → (Nat → Int32) → (Nat → Int32) → (Nat → Int32) → (Nat → Int32) → (Nat → Int64) → Int64 × Int64 × Int32 × Int32 × (Nat → Int32) × (Nat → Int32) × (Nat → Int32) × (Nat → Int32) × (Nat → Int32) × (Nat → Int32) × (Nat → Int32) × (Nat → Int32) × (Nat → Int64)
  | 0, i6, f_there_6, f_marked_6, f_trains_6, f_step_6, a_size_6, a_age_6, a_train_6, a_car_6, a_place_6, a_links_6, a_roots_6, a_cars_6, a_from_6 => if (nI i6) < plan_f_things then
      mX10_settle_75 plan_f_things plan_a_links plan_a_roots 24 0 f_there_6 f_marked_6 f_trains_6 f_step_6 a_size_6 a_age_6 a_train_6 a_car_6 a_place_6 a_links_6 a_roots_6 a_cars_6 a_from_6
    else
      mX10_settle_75 plan_f_things plan_a_links plan_a_roots 24 0 f_there_6 f_marked_6 f_trains_6 f_step_6 a_size_6 a_age_6 a_train_6 a_car_6 a_place_6 a_links_6 a_roots_6 a_cars_6 a_from_6
  | k6 + 1, i6, f_there_6, f_marked_6, f_trains_6, f_step_6, a_size_6, a_age_6, a_train_6, a_car_6, a_place_6, a_links_6, a_roots_6, a_cars_6, a_from_6 =>
    if (nI i6) < plan_f_things then
      if (nI i6) = 0 then
        mX10_settle_35 plan_f_units plan_a_size a_age_6 a_car_6 a_cars_6 a_from_6 a_links_6 a_place_6 a_roots_6 a_size_6 a_train_6 f_marked_6 f_step_6 f_there_6 f_trains_6 i6 (fun zf_there_6 zf_marked_6 zf_trains_6 zf_step_6 za_size_6 za_age_6 za_train_6 za_car_6 za_place_6 za_links_6 za_roots_6 za_cars_6 za_from_6 => mX10_settle_6 plan_f_units plan_f_things plan_a_size plan_a_begins plan_a_links plan_a_roots k6 (i6 + 1) zf_there_6 zf_marked_6 zf_trains_6 zf_step_6 za_size_6 za_age_6 za_train_6 za_car_6 za_place_6 za_links_6 za_roots_6 za_cars_6 za_from_6)
      else
        if (mX11_at 24 (nI i6) plan_a_begins) = 0 then
          mX10_settle_39 plan_f_units plan_a_size a_age_6 a_car_6 a_from_6 a_links_6 a_place_6 a_roots_6 a_size_6 a_train_6 f_marked_6 f_step_6 f_there_6 i6 (fun zf_there_6 zf_marked_6 zf_trains_6 zf_step_6 za_size_6 za_age_6 za_train_6 za_car_6 za_place_6 za_links_6 za_roots_6 za_cars_6 za_from_6 => mX10_settle_6 plan_f_units plan_f_things plan_a_size plan_a_begins plan_a_links plan_a_roots k6 (i6 + 1) zf_there_6 zf_marked_6 zf_trains_6 zf_step_6 za_size_6 za_age_6 za_train_6 za_car_6 za_place_6 za_links_6 za_roots_6 za_cars_6 za_from_6) f_trains_6 a_cars_6
        else
          mX10_settle_35 plan_f_units plan_a_size a_age_6 a_car_6 a_cars_6 a_from_6 a_links_6 a_place_6 a_roots_6 a_size_6 a_train_6 f_marked_6 f_step_6 f_there_6 f_trains_6 i6 (fun zf_there_6 zf_marked_6 zf_trains_6 zf_step_6 za_size_6 za_age_6 za_train_6 za_car_6 za_place_6 za_links_6 za_roots_6 za_cars_6 za_from_6 => mX10_settle_6 plan_f_units plan_f_things plan_a_size plan_a_begins plan_a_links plan_a_roots k6 (i6 + 1) zf_there_6 zf_marked_6 zf_trains_6 zf_step_6 za_size_6 za_age_6 za_train_6 za_car_6 za_place_6 za_links_6 za_roots_6 za_cars_6 za_from_6)
    else
      mX10_settle_75 plan_f_things plan_a_links plan_a_roots 24 0 f_there_6 f_marked_6 f_trains_6 f_step_6 a_size_6 a_age_6 a_train_6 a_car_6 a_place_6 a_links_6 a_roots_6 a_cars_6 a_from_6
def mX10_settle (a_size : Nat → Int32) (a_age : Nat → Int32) (a_train : Nat → Int32) (a_car : Nat → Int32) (a_place : Nat → Int32) (a_links : Nat → Int32) (a_roots : Nat → Int32) (a_cars : Nat → Int32) (a_from : Nat → Int64) (plan_f_units : Int32) (plan_f_things : Int32) (plan_a_size : Nat → Int32) (plan_a_begins : Nat → Int32) (plan_a_links : Nat → Int32) (plan_a_roots : Nat → Int32) : Int64 × Int64 × Int32 × Int32 × (Nat → Int32) × (Nat → Int32) × (Nat → Int32) × (Nat → Int32) × (Nat → Int32) × (Nat → Int32) × (Nat → Int32) × (Nat → Int32) × (Nat → Int64) :=
  xlet (mX10_clear a_size a_age a_links a_roots a_cars a_from) (xu fun q1_1 => xu fun q1_2 => xu fun q1_3 => xu fun q1_4 => xu fun q1_5 => xu fun q1_6 => xu fun q1_7 => xu fun q1_8 => xu fun q1_9 => fun q1_10 =>
    mX10_settle_6 plan_f_units plan_f_things plan_a_size plan_a_begins plan_a_links plan_a_roots 24 0 q1_1 q1_2 q1_3 q1_4 q1_5 q1_6 a_train a_car a_place q1_7 q1_8 q1_9 q1_10)
set_option maxRecDepth 100000 in
theorem sh_X10_settle_0 {f_there : Int64} {f_marked : Int64} {f_trains : Int32} {f_step : Int32} {a_size : Nat → Int32} {a_age : Nat → Int32} {a_train : Nat → Int32} {a_car : Nat → Int32} {a_place : Nat → Int32} {a_links : Nat → Int32} {a_roots : Nat → Int32} {a_cars : Nat → Int32} {a_from : Nat → Int64} {plan_f_units : Int32} {plan_f_churn : Int32} {plan_f_statements : Int32} {plan_f_things : Int32} {plan_f_rootsTold : Int32} {plan_f_codes : Int32} {plan_a_size : Nat → Int32} {plan_a_begins : Nat → Int32} {plan_a_links : Nat → Int32} {plan_a_roots : Nat → Int32} : ([0, 1, 3, 4, 5, 8] : List Nat).map (fun i => (mcX10_settle f_there f_marked f_trains f_step a_size a_age a_train a_car a_place a_links a_roots a_cars a_from plan_f_units plan_f_churn plan_f_statements plan_f_things plan_f_rootsTold plan_f_codes plan_a_size plan_a_begins plan_a_links plan_a_roots)[i]?) = (mcX10_lay f_there f_marked f_trains f_step a_size a_train a_car a_place a_cars).map (fun q => some (xrn id q)) := rfl
set_option maxRecDepth 100000 in
theorem se_X10_settle_0 {f_there : Int64} {f_marked : Int64} {f_trains : Int32} {f_step : Int32} {a_size : Nat → Int32} {a_age : Nat → Int32} {a_train : Nat → Int32} {a_car : Nat → Int32} {a_place : Nat → Int32} {a_links : Nat → Int32} {a_roots : Nat → Int32} {a_cars : Nat → Int32} {a_from : Nat → Int64} {plan_f_units : Int32} {plan_f_churn : Int32} {plan_f_statements : Int32} {plan_f_things : Int32} {plan_f_rootsTold : Int32} {plan_f_codes : Int32} {plan_a_size : Nat → Int32} {plan_a_begins : Nat → Int32} {plan_a_links : Nat → Int32} {plan_a_roots : Nat → Int32} {c_0 : Int64} {c_1 : Int64} {c_2 : Int32} {c_3 : Int32} {c_4 : Nat → Int32} {c_5 : Nat → Int32} {c_6 : Nat → Int32} {c_7 : Nat → Int32} {c_8 : Nat → Int32} : xmg 0 (mcX10_settle f_there f_marked f_trains f_step a_size a_age a_train a_car a_place a_links a_roots a_cars a_from plan_f_units plan_f_churn plan_f_statements plan_f_things plan_f_rootsTold plan_f_codes plan_a_size plan_a_begins plan_a_links plan_a_roots) [0, 1, 3, 4, 5, 8] ((mcX10_lay c_0 c_1 c_2 c_3 c_4 c_5 c_6 c_7 c_8).map (xrn id)) = mcX10_settle c_0 c_1 c_2 c_3 c_4 a_age c_5 c_6 c_7 a_links a_roots c_8 a_from plan_f_units plan_f_churn plan_f_statements plan_f_things plan_f_rootsTold plan_f_codes plan_a_size plan_a_begins plan_a_links plan_a_roots := rfl
set_option maxRecDepth 100000 in
theorem sh_X10_settle_1 {f_there : Int64} {f_marked : Int64} {f_trains : Int32} {f_step : Int32} {a_size : Nat → Int32} {a_age : Nat → Int32} {a_train : Nat → Int32} {a_car : Nat → Int32} {a_place : Nat → Int32} {a_links : Nat → Int32} {a_roots : Nat → Int32} {a_cars : Nat → Int32} {a_from : Nat → Int64} {plan_f_units : Int32} {plan_f_churn : Int32} {plan_f_statements : Int32} {plan_f_things : Int32} {plan_f_rootsTold : Int32} {plan_f_codes : Int32} {plan_a_size : Nat → Int32} {plan_a_begins : Nat → Int32} {plan_a_links : Nat → Int32} {plan_a_roots : Nat → Int32} : ([0, 1, 2, 6, 7, 8, 9] : List Nat).map (fun i => (mcX10_settle f_there f_marked f_trains f_step a_size a_age a_train a_car a_place a_links a_roots a_cars a_from plan_f_units plan_f_churn plan_f_statements plan_f_things plan_f_rootsTold plan_f_codes plan_a_size plan_a_begins plan_a_links plan_a_roots)[i]?) = (mcX10_clear f_there f_marked f_trains f_step a_size a_age a_links a_roots a_cars a_from).map (fun q => some (xrn id q)) := rfl
set_option maxRecDepth 100000 in
theorem se_X10_settle_1 {f_there : Int64} {f_marked : Int64} {f_trains : Int32} {f_step : Int32} {a_size : Nat → Int32} {a_age : Nat → Int32} {a_train : Nat → Int32} {a_car : Nat → Int32} {a_place : Nat → Int32} {a_links : Nat → Int32} {a_roots : Nat → Int32} {a_cars : Nat → Int32} {a_from : Nat → Int64} {plan_f_units : Int32} {plan_f_churn : Int32} {plan_f_statements : Int32} {plan_f_things : Int32} {plan_f_rootsTold : Int32} {plan_f_codes : Int32} {plan_a_size : Nat → Int32} {plan_a_begins : Nat → Int32} {plan_a_links : Nat → Int32} {plan_a_roots : Nat → Int32} {c_0 : Int64} {c_1 : Int64} {c_2 : Int32} {c_3 : Int32} {c_4 : Nat → Int32} {c_5 : Nat → Int32} {c_6 : Nat → Int32} {c_7 : Nat → Int32} {c_8 : Nat → Int32} {c_9 : Nat → Int64} : xmg 0 (mcX10_settle f_there f_marked f_trains f_step a_size a_age a_train a_car a_place a_links a_roots a_cars a_from plan_f_units plan_f_churn plan_f_statements plan_f_things plan_f_rootsTold plan_f_codes plan_a_size plan_a_begins plan_a_links plan_a_roots) [0, 1, 2, 6, 7, 8, 9] ((mcX10_clear c_0 c_1 c_2 c_3 c_4 c_5 c_6 c_7 c_8 c_9).map (xrn id)) = mcX10_settle c_0 c_1 c_2 c_3 c_4 c_5 a_train a_car a_place c_6 c_7 c_8 c_9 plan_f_units plan_f_churn plan_f_statements plan_f_things plan_f_rootsTold plan_f_codes plan_a_size plan_a_begins plan_a_links plan_a_roots := rfl
set_option maxRecDepth 100000 in
set_option maxHeartbeats 1500000 in
theorem kX10_settle (l : Launch) (f_there : Int64) (f_marked : Int64) (f_trains : Int32) (f_step : Int32) (a_size : Nat → Int32) (a_age : Nat → Int32) (a_train : Nat → Int32) (a_car : Nat → Int32) (a_place : Nat → Int32) (a_links : Nat → Int32) (a_roots : Nat → Int32) (a_cars : Nat → Int32) (a_from : Nat → Int64) (plan_f_units : Int32) (plan_f_churn : Int32) (plan_f_statements : Int32) (plan_f_things : Int32) (plan_f_rootsTold : Int32) (plan_f_codes : Int32) (plan_a_size : Nat → Int32) (plan_a_begins : Nat → Int32) (plan_a_links : Nat → Int32) (plan_a_roots : Nat → Int32)  : xMet l 3 yX10_settle cX10_settle 4 none [.ref 0, .ref 1000] (mcX10_settle f_there f_marked f_trains f_step a_size a_age a_train a_car a_place a_links a_roots a_cars a_from plan_f_units plan_f_churn plan_f_statements plan_f_things plan_f_rootsTold plan_f_codes plan_a_size plan_a_begins plan_a_links plan_a_roots) (meX10_settle f_there f_marked f_trains f_step a_size a_age a_train a_car a_place a_links a_roots a_cars a_from plan_f_units plan_f_churn plan_f_statements plan_f_things plan_f_rootsTold plan_f_codes plan_a_size plan_a_begins plan_a_links plan_a_roots (mX10_settle a_size a_age a_train a_car a_place a_links a_roots a_cars a_from plan_f_units plan_f_things plan_a_size plan_a_begins plan_a_links plan_a_roots)) := by
  refine xMet_of cy_X10_settle [some (.ref 0), some (.ref 1000), none, none] rfl (Nat.le_of_ble_eq_true rfl) (fun X K => ?_)
  have J126 : ∀ (f_there_126 : Int64) (f_marked_126 : Int64) (f_trains_126 : Int32) (f_step_126 : Int32) (a_size_126 : Nat → Int32) (a_age_126 : Nat → Int32) (a_train_126 : Nat → Int32) (a_car_126 : Nat → Int32) (a_place_126 : Nat → Int32) (a_links_126 : Nat → Int32) (a_roots_126 : Nat → Int32) (a_cars_126 : Nat → Int32) (a_from_126 : Nat → Int64), xR X (meX10_settle f_there f_marked f_trains f_step a_size a_age a_train a_car a_place a_links a_roots a_cars a_from plan_f_units plan_f_churn plan_f_statements plan_f_things plan_f_rootsTold plan_f_codes plan_a_size plan_a_begins plan_a_links plan_a_roots (mX10_settle_126 plan_a_roots f_there_126 f_marked_126 f_trains_126 f_step_126 a_size_126 a_age_126 a_train_126 a_car_126 a_place_126 a_links_126 a_roots_126 a_cars_126 a_from_126)) 126 [some (.ref 0), some (.ref 1000), none, none] [] (mcX10_settle f_there_126 f_marked_126 f_trains_126 f_step_126 a_size_126 a_age_126 a_train_126 a_car_126 a_place_126 a_links_126 a_roots_126 a_cars_126 a_from_126 plan_f_units plan_f_churn plan_f_statements plan_f_things plan_f_rootsTold plan_f_codes plan_a_size plan_a_begins plan_a_links plan_a_roots) := by
    intro f_there_126 f_marked_126 f_trains_126 f_step_126 a_size_126 a_age_126 a_train_126 a_car_126 a_place_126 a_links_126 a_roots_126 a_cars_126 a_from_126
    refine xR_st K pq_X10_settle 7 (pc' := 138) (L' := [some (.ref 0), some (.ref 1000), none, none]) (S' := [.int 8, .int 0, .ref 7, .int 0, .ref 1006]) (C' := mcX10_settle f_there_126 f_marked_126 f_trains_126 f_step_126 a_size_126 a_age_126 a_train_126 a_car_126 a_place_126 a_links_126 a_roots_126 a_cars_126 a_from_126 plan_f_units plan_f_churn plan_f_statements plan_f_things plan_f_rootsTold plan_f_codes plan_a_size plan_a_begins plan_a_links plan_a_roots) rfl trivial ?_
    refine xR_copyi K pq_X10_settle rfl (xlkc_X10) 14 7 rfl rfl (by decide) (by decide) (by decide) (by decide) (by decide) (by decide) (Nat.le_of_ble_eq_true rfl) (C2 := mcX10_settle f_there_126 f_marked_126 f_trains_126 f_step_126 a_size_126 a_age_126 a_train_126 a_car_126 a_place_126 a_links_126 (va_cpy plan_a_roots a_roots_126 0 0 8) a_cars_126 a_from_126 plan_f_units plan_f_churn plan_f_statements plan_f_things plan_f_rootsTold plan_f_codes plan_a_size plan_a_begins plan_a_links plan_a_roots) rfl ?_
    exact xR_retv K pq_X10_settle rfl
  have J91 : ∀ (a_age_75 : Nat → Int32) (a_car_75 : Nat → Int32) (a_cars_75 : Nat → Int32) (a_place_75 : Nat → Int32) (a_roots_75 : Nat → Int32) (a_size_75 : Nat → Int32) (a_train_75 : Nat → Int32) (f_marked_75 : Int64) (f_step_75 : Int32) (f_there_75 : Int64) (f_trains_75 : Int32) (i75 : Nat) (K75 : Int64 → Int64 → Int32 → Int32 → (Nat → Int32) → (Nat → Int32) → (Nat → Int32) → (Nat → Int32) → (Nat → Int32) → (Nat → Int32) → (Nat → Int32) → (Nat → Int32) → (Nat → Int64) → Int64 × Int64 × Int32 × Int32 × (Nat → Int32) × (Nat → Int32) × (Nat → Int32) × (Nat → Int32) × (Nat → Int32) × (Nat → Int32) × (Nat → Int32) × (Nat → Int32) × (Nat → Int64)) (hK75 : ∀ (zf_there_75 : Int64) (zf_marked_75 : Int64) (zf_trains_75 : Int32) (zf_step_75 : Int32) (za_size_75 : Nat → Int32) (za_age_75 : Nat → Int32) (za_train_75 : Nat → Int32) (za_car_75 : Nat → Int32) (za_place_75 : Nat → Int32) (za_links_75 : Nat → Int32) (za_roots_75 : Nat → Int32) (za_cars_75 : Nat → Int32) (za_from_75 : Nat → Int64), xR X (meX10_settle f_there f_marked f_trains f_step a_size a_age a_train a_car a_place a_links a_roots a_cars a_from plan_f_units plan_f_churn plan_f_statements plan_f_things plan_f_rootsTold plan_f_codes plan_a_size plan_a_begins plan_a_links plan_a_roots (K75 zf_there_75 zf_marked_75 zf_trains_75 zf_step_75 za_size_75 za_age_75 za_train_75 za_car_75 za_place_75 za_links_75 za_roots_75 za_cars_75 za_from_75)) 75 [some (.ref 0), some (.ref 1000), some (.int (nI (i75 + 1))), none] [] (mcX10_settle zf_there_75 zf_marked_75 zf_trains_75 zf_step_75 za_size_75 za_age_75 za_train_75 za_car_75 za_place_75 za_links_75 za_roots_75 za_cars_75 za_from_75 plan_f_units plan_f_churn plan_f_statements plan_f_things plan_f_rootsTold plan_f_codes plan_a_size plan_a_begins plan_a_links plan_a_roots)) (k91 i91 : Nat) (a_links_91 : Nat → Int32) (a_from_91 : Nat → Int64) (hik91 : i91 + k91 = 4) (g0_91 : (nI i75) < plan_f_things) (g1_91 : i75 < 24), xR X (meX10_settle f_there f_marked f_trains f_step a_size a_age a_train a_car a_place a_links a_roots a_cars a_from plan_f_units plan_f_churn plan_f_statements plan_f_things plan_f_rootsTold plan_f_codes plan_a_size plan_a_begins plan_a_links plan_a_roots (mX10_settle_91 plan_a_links a_age_75 a_car_75 a_cars_75 a_place_75 a_roots_75 a_size_75 a_train_75 f_marked_75 f_step_75 f_there_75 f_trains_75 i75 K75 k91 i91 a_links_91 a_from_91)) 91 [some (.ref 0), some (.ref 1000), some (.int (nI i75)), some (.int (nI i91))] [] (mcX10_settle f_there_75 f_marked_75 f_trains_75 f_step_75 a_size_75 a_age_75 a_train_75 a_car_75 a_place_75 a_links_91 a_roots_75 a_cars_75 a_from_91 plan_f_units plan_f_churn plan_f_statements plan_f_things plan_f_rootsTold plan_f_codes plan_a_size plan_a_begins plan_a_links plan_a_roots) := by
    intro a_age_75 a_car_75 a_cars_75 a_place_75 a_roots_75 a_size_75 a_train_75 f_marked_75 f_step_75 f_there_75 f_trains_75 i75 K75 hK75 k91
    induction k91 with
    | zero =>
      intro i91 a_links_91 a_from_91 hik91 g0_91 g1_91
      rw [mX10_settle_91.eq_1]
      refine xR_st K pq_X10_settle 2 (pc' := 93) (L' := [some (.ref 0), some (.ref 1000), some (.int (nI i75)), some (.int (nI i91))]) (S' := [.int 4, .int (nI i91)]) (C' := mcX10_settle f_there_75 f_marked_75 f_trains_75 f_step_75 a_size_75 a_age_75 a_train_75 a_car_75 a_place_75 a_links_91 a_roots_75 a_cars_75 a_from_91 plan_f_units plan_f_churn plan_f_statements plan_f_things plan_f_rootsTold plan_f_codes plan_a_size plan_a_begins plan_a_links plan_a_roots) rfl trivial ?_
      refine xR_if2 K pq_X10_settle rfl ⟨rfl, rfl⟩ (fun _ => ?_) (fun hx => absurd hx (xlt_no 4 hik91 (by first | assumption | decide)))
      refine xR_st K pq_X10_settle 2 (pc' := 75) (L' := [some (.ref 0), some (.ref 1000), some (.int ((nI i75) + 1)), some (.int (nI i91))]) (S' := []) (C' := mcX10_settle f_there_75 f_marked_75 f_trains_75 f_step_75 a_size_75 a_age_75 a_train_75 a_car_75 a_place_75 a_links_91 a_roots_75 a_cars_75 a_from_91 plan_f_units plan_f_churn plan_f_statements plan_f_things plan_f_rootsTold plan_f_codes plan_a_size plan_a_begins plan_a_links plan_a_roots) rfl trivial ?_
      exact xR_less2 (hK75 _ _ _ _ _ _ _ _ _ _ _ _ _) ⟨rfl, rfl, xcnt i75, trivial⟩
    | succ k91 ih =>
      intro i91 a_links_91 a_from_91 hik91 g0_91 g1_91
      rw [mX10_settle_91.eq_2]
      refine xR_st K pq_X10_settle 2 (pc' := 93) (L' := [some (.ref 0), some (.ref 1000), some (.int (nI i75)), some (.int (nI i91))]) (S' := [.int 4, .int (nI i91)]) (C' := mcX10_settle f_there_75 f_marked_75 f_trains_75 f_step_75 a_size_75 a_age_75 a_train_75 a_car_75 a_place_75 a_links_91 a_roots_75 a_cars_75 a_from_91 plan_f_units plan_f_churn plan_f_statements plan_f_things plan_f_rootsTold plan_f_codes plan_a_size plan_a_begins plan_a_links plan_a_roots) rfl trivial ?_
      refine xR_if2 K pq_X10_settle rfl ⟨rfl, rfl⟩ (fun hx => absurd (xlt_yes 4 hik91 (by first | assumption | decide)) hx) (fun _ => ?_)
      refine xR_st K pq_X10_settle 10 (pc' := 108) (L' := [some (.ref 0), some (.ref 1000), some (.int (nI i75)), some (.int (nI i91))]) (S' := [.int (((nI i75) * 4) + (nI i91)), .ref 1005, .int (nI i91), .int (nI i75), .ref 0]) (C' := mcX10_settle f_there_75 f_marked_75 f_trains_75 f_step_75 a_size_75 a_age_75 a_train_75 a_car_75 a_place_75 a_links_91 a_roots_75 a_cars_75 a_from_91 plan_f_units plan_f_churn plan_f_statements plan_f_things plan_f_rootsTold plan_f_codes plan_a_size plan_a_begins plan_a_links plan_a_roots) rfl trivial ?_
      refine xR_callS3 K pq_X10_settle rfl lk_X10_80 cy_X11_at ss_X11_at ar_X11_at (rest := [.int (nI i91), .int (nI i75), .ref 0]) (kX11_at l 96 (((nI i75) * 4) + (nI i91)) plan_a_links (by first | assumption | decide | omega)) (by decide) (by decide) (S2 := [.int (mX11_at 96 (((nI i75) * 4) + (nI i91)) plan_a_links), .int (nI i91), .int (nI i75), .ref 0]) (C2 := mcX10_settle f_there_75 f_marked_75 f_trains_75 f_step_75 a_size_75 a_age_75 a_train_75 a_car_75 a_place_75 a_links_91 a_roots_75 a_cars_75 a_from_91 plan_f_units plan_f_churn plan_f_statements plan_f_things plan_f_rootsTold plan_f_codes plan_a_size plan_a_begins plan_a_links plan_a_roots) (fun k => k - 1000 + 1005) [13] rfl rfl (Nat.le_of_ble_eq_true rfl) rfl (by decide) rfl rfl rfl ?_
      refine xR_let (enc := meX10_settle f_there f_marked f_trains f_step a_size a_age a_train a_car a_place a_links a_roots a_cars a_from plan_f_units plan_f_churn plan_f_statements plan_f_things plan_f_rootsTold plan_f_codes plan_a_size plan_a_begins plan_a_links plan_a_roots) (fun q11 hq11 => ?_)
      obtain ⟨q11_1, q11_2⟩ := q11
      iterate 1 refine xR_u (enc := meX10_settle f_there f_marked f_trains f_step a_size a_age a_train a_car a_place a_links a_roots a_cars a_from plan_f_units plan_f_churn plan_f_statements plan_f_things plan_f_rootsTold plan_f_codes plan_a_size plan_a_begins plan_a_links plan_a_roots) ?_
      have hMq11 := kX10_point l (nI i75) (nI i91) (mX11_at 96 (((nI i75) * 4) + (nI i91)) plan_a_links) f_there_75 f_marked_75 f_trains_75 f_step_75 a_links_91 a_from_91
      rw [← hq11] at hMq11
      refine xR_callV3 K pq_X10_settle rfl lk_X10_100 cy_X10_point si_X10_point ar_X10_point (rest := []) hMq11 (by decide) (by decide) rfl rfl (S2 := []) (C2 := mcX10_settle f_there_75 f_marked_75 f_trains_75 f_step_75 a_size_75 a_age_75 a_train_75 a_car_75 a_place_75 q11_1 a_roots_75 a_cars_75 q11_2 plan_f_units plan_f_churn plan_f_statements plan_f_things plan_f_rootsTold plan_f_codes plan_a_size plan_a_begins plan_a_links plan_a_roots) id [0, 6, 9] rfl rfl (Nat.le_of_ble_eq_true rfl) rfl (by decide) rfl rfl rfl ?_
      refine xR_st K pq_X10_settle 2 (pc' := 91) (L' := [some (.ref 0), some (.ref 1000), some (.int (nI i75)), some (.int ((nI i91) + 1))]) (S' := []) (C' := mcX10_settle f_there_75 f_marked_75 f_trains_75 f_step_75 a_size_75 a_age_75 a_train_75 a_car_75 a_place_75 q11_1 a_roots_75 a_cars_75 q11_2 plan_f_units plan_f_churn plan_f_statements plan_f_things plan_f_rootsTold plan_f_codes plan_a_size plan_a_begins plan_a_links plan_a_roots) rfl trivial ?_
      exact xR_less2 (ih (i91 + 1) _ _ (by omega) g0_91 g1_91) ⟨rfl, rfl, rfl, xcnt i91, trivial⟩
  have J75 : ∀ (k75 i75 : Nat) (f_there_75 : Int64) (f_marked_75 : Int64) (f_trains_75 : Int32) (f_step_75 : Int32) (a_size_75 : Nat → Int32) (a_age_75 : Nat → Int32) (a_train_75 : Nat → Int32) (a_car_75 : Nat → Int32) (a_place_75 : Nat → Int32) (a_links_75 : Nat → Int32) (a_roots_75 : Nat → Int32) (a_cars_75 : Nat → Int32) (a_from_75 : Nat → Int64) (hik75 : i75 + k75 = 24), xR X (meX10_settle f_there f_marked f_trains f_step a_size a_age a_train a_car a_place a_links a_roots a_cars a_from plan_f_units plan_f_churn plan_f_statements plan_f_things plan_f_rootsTold plan_f_codes plan_a_size plan_a_begins plan_a_links plan_a_roots (mX10_settle_75 plan_f_things plan_a_links plan_a_roots k75 i75 f_there_75 f_marked_75 f_trains_75 f_step_75 a_size_75 a_age_75 a_train_75 a_car_75 a_place_75 a_links_75 a_roots_75 a_cars_75 a_from_75)) 75 [some (.ref 0), some (.ref 1000), some (.int (nI i75)), none] [] (mcX10_settle f_there_75 f_marked_75 f_trains_75 f_step_75 a_size_75 a_age_75 a_train_75 a_car_75 a_place_75 a_links_75 a_roots_75 a_cars_75 a_from_75 plan_f_units plan_f_churn plan_f_statements plan_f_things plan_f_rootsTold plan_f_codes plan_a_size plan_a_begins plan_a_links plan_a_roots) := by
    intro k75
    induction k75 with
    | zero =>
      intro i75 f_there_75 f_marked_75 f_trains_75 f_step_75 a_size_75 a_age_75 a_train_75 a_car_75 a_place_75 a_links_75 a_roots_75 a_cars_75 a_from_75 hik75
      rw [mX10_settle_75.eq_1]
      refine xR_st K pq_X10_settle 3 (pc' := 80) (L' := [some (.ref 0), some (.ref 1000), some (.int (nI i75)), none]) (S' := [.int plan_f_things, .int (nI i75)]) (C' := mcX10_settle f_there_75 f_marked_75 f_trains_75 f_step_75 a_size_75 a_age_75 a_train_75 a_car_75 a_place_75 a_links_75 a_roots_75 a_cars_75 a_from_75 plan_f_units plan_f_churn plan_f_statements plan_f_things plan_f_rootsTold plan_f_codes plan_a_size plan_a_begins plan_a_links plan_a_roots) rfl trivial ?_
      refine xR_i2 (enc := meX10_settle f_there f_marked f_trains f_step a_size a_age a_train a_car a_place a_links a_roots a_cars a_from plan_f_units plan_f_churn plan_f_statements plan_f_things plan_f_rootsTold plan_f_codes plan_a_size plan_a_begins plan_a_links plan_a_roots) (q1 := 83) (q2 := 126) K pq_X10_settle rfl rfl rfl rfl (fun h10 => ?_) (fun h10 => ?_)
      · refine xR_st K pq_X10_settle 2 (pc' := 86) (L' := [some (.ref 0), some (.ref 1000), some (.int (nI i75)), none]) (S' := [.int 24, .int (nI i75)]) (C' := mcX10_settle f_there_75 f_marked_75 f_trains_75 f_step_75 a_size_75 a_age_75 a_train_75 a_car_75 a_place_75 a_links_75 a_roots_75 a_cars_75 a_from_75 plan_f_units plan_f_churn plan_f_statements plan_f_things plan_f_rootsTold plan_f_codes plan_a_size plan_a_begins plan_a_links plan_a_roots) rfl trivial ?_
        refine xR_if2 K pq_X10_settle rfl ⟨rfl, rfl⟩ (fun _ => ?_) (fun hx => absurd hx (xlt_no 24 hik75 (by first | assumption | decide)))
        exact xR_less2 (J126 _ _ _ _ _ _ _ _ _ _ _ _ _) ⟨rfl, rfl, trivial⟩
      · exact xR_less2 (J126 _ _ _ _ _ _ _ _ _ _ _ _ _) ⟨rfl, rfl, trivial⟩
    | succ k75 ih =>
      intro i75 f_there_75 f_marked_75 f_trains_75 f_step_75 a_size_75 a_age_75 a_train_75 a_car_75 a_place_75 a_links_75 a_roots_75 a_cars_75 a_from_75 hik75
      rw [mX10_settle_75.eq_2]
      refine xR_st K pq_X10_settle 3 (pc' := 80) (L' := [some (.ref 0), some (.ref 1000), some (.int (nI i75)), none]) (S' := [.int plan_f_things, .int (nI i75)]) (C' := mcX10_settle f_there_75 f_marked_75 f_trains_75 f_step_75 a_size_75 a_age_75 a_train_75 a_car_75 a_place_75 a_links_75 a_roots_75 a_cars_75 a_from_75 plan_f_units plan_f_churn plan_f_statements plan_f_things plan_f_rootsTold plan_f_codes plan_a_size plan_a_begins plan_a_links plan_a_roots) rfl trivial ?_
      refine xR_i2 (enc := meX10_settle f_there f_marked f_trains f_step a_size a_age a_train a_car a_place a_links a_roots a_cars a_from plan_f_units plan_f_churn plan_f_statements plan_f_things plan_f_rootsTold plan_f_codes plan_a_size plan_a_begins plan_a_links plan_a_roots) (q1 := 83) (q2 := 126) K pq_X10_settle rfl rfl rfl rfl (fun h9 => ?_) (fun h9 => ?_)
      · refine xR_st K pq_X10_settle 2 (pc' := 86) (L' := [some (.ref 0), some (.ref 1000), some (.int (nI i75)), none]) (S' := [.int 24, .int (nI i75)]) (C' := mcX10_settle f_there_75 f_marked_75 f_trains_75 f_step_75 a_size_75 a_age_75 a_train_75 a_car_75 a_place_75 a_links_75 a_roots_75 a_cars_75 a_from_75 plan_f_units plan_f_churn plan_f_statements plan_f_things plan_f_rootsTold plan_f_codes plan_a_size plan_a_begins plan_a_links plan_a_roots) rfl trivial ?_
        refine xR_if2 K pq_X10_settle rfl ⟨rfl, rfl⟩ (fun hx => absurd (xlt_yes 24 hik75 (by first | assumption | decide)) hx) (fun _ => ?_)
        refine xR_st K pq_X10_settle 2 (pc' := 91) (L' := [some (.ref 0), some (.ref 1000), some (.int (nI i75)), some (.int 0)]) (S' := []) (C' := mcX10_settle f_there_75 f_marked_75 f_trains_75 f_step_75 a_size_75 a_age_75 a_train_75 a_car_75 a_place_75 a_links_75 a_roots_75 a_cars_75 a_from_75 plan_f_units plan_f_churn plan_f_statements plan_f_things plan_f_rootsTold plan_f_codes plan_a_size plan_a_begins plan_a_links plan_a_roots) rfl trivial ?_
        exact xR_less2 (J91 a_age_75 a_car_75 a_cars_75 a_place_75 a_roots_75 a_size_75 a_train_75 f_marked_75 f_step_75 f_there_75 f_trains_75 i75 _ (fun zf_there_75 zf_marked_75 zf_trains_75 zf_step_75 za_size_75 za_age_75 za_train_75 za_car_75 za_place_75 za_links_75 za_roots_75 za_cars_75 za_from_75 => ih (i75 + 1) zf_there_75 zf_marked_75 zf_trains_75 zf_step_75 za_size_75 za_age_75 za_train_75 za_car_75 za_place_75 za_links_75 za_roots_75 za_cars_75 za_from_75 (by omega)) _ _ _ _ (by first | rfl | omega) h9 (by omega)) ⟨rfl, rfl, rfl, rfl, trivial⟩
      · exact xR_less2 (J126 _ _ _ _ _ _ _ _ _ _ _ _ _) ⟨rfl, rfl, trivial⟩
  have J39 : ∀ (a_age_6 : Nat → Int32) (a_car_6 : Nat → Int32) (a_from_6 : Nat → Int64) (a_links_6 : Nat → Int32) (a_place_6 : Nat → Int32) (a_roots_6 : Nat → Int32) (a_size_6 : Nat → Int32) (a_train_6 : Nat → Int32) (f_marked_6 : Int64) (f_step_6 : Int32) (f_there_6 : Int64) (i6 : Nat) (K6 : Int64 → Int64 → Int32 → Int32 → (Nat → Int32) → (Nat → Int32) → (Nat → Int32) → (Nat → Int32) → (Nat → Int32) → (Nat → Int32) → (Nat → Int32) → (Nat → Int32) → (Nat → Int64) → Int64 × Int64 × Int32 × Int32 × (Nat → Int32) × (Nat → Int32) × (Nat → Int32) × (Nat → Int32) × (Nat → Int32) × (Nat → Int32) × (Nat → Int32) × (Nat → Int32) × (Nat → Int64)) (hK6 : ∀ (zf_there_6 : Int64) (zf_marked_6 : Int64) (zf_trains_6 : Int32) (zf_step_6 : Int32) (za_size_6 : Nat → Int32) (za_age_6 : Nat → Int32) (za_train_6 : Nat → Int32) (za_car_6 : Nat → Int32) (za_place_6 : Nat → Int32) (za_links_6 : Nat → Int32) (za_roots_6 : Nat → Int32) (za_cars_6 : Nat → Int32) (za_from_6 : Nat → Int64), xR X (meX10_settle f_there f_marked f_trains f_step a_size a_age a_train a_car a_place a_links a_roots a_cars a_from plan_f_units plan_f_churn plan_f_statements plan_f_things plan_f_rootsTold plan_f_codes plan_a_size plan_a_begins plan_a_links plan_a_roots (K6 zf_there_6 zf_marked_6 zf_trains_6 zf_step_6 za_size_6 za_age_6 za_train_6 za_car_6 za_place_6 za_links_6 za_roots_6 za_cars_6 za_from_6)) 6 [some (.ref 0), some (.ref 1000), some (.int (nI (i6 + 1))), none] [] (mcX10_settle zf_there_6 zf_marked_6 zf_trains_6 zf_step_6 za_size_6 za_age_6 za_train_6 za_car_6 za_place_6 za_links_6 za_roots_6 za_cars_6 za_from_6 plan_f_units plan_f_churn plan_f_statements plan_f_things plan_f_rootsTold plan_f_codes plan_a_size plan_a_begins plan_a_links plan_a_roots)) (f_trains_39 : Int32) (a_cars_39 : Nat → Int32) (g0_39 : (nI i6) < plan_f_things) (g1_39 : i6 < 24), xR X (meX10_settle f_there f_marked f_trains f_step a_size a_age a_train a_car a_place a_links a_roots a_cars a_from plan_f_units plan_f_churn plan_f_statements plan_f_things plan_f_rootsTold plan_f_codes plan_a_size plan_a_begins plan_a_links plan_a_roots (mX10_settle_39 plan_f_units plan_a_size a_age_6 a_car_6 a_from_6 a_links_6 a_place_6 a_roots_6 a_size_6 a_train_6 f_marked_6 f_step_6 f_there_6 i6 K6 f_trains_39 a_cars_39)) 39 [some (.ref 0), some (.ref 1000), some (.int (nI i6)), none] [] (mcX10_settle f_there_6 f_marked_6 f_trains_39 f_step_6 a_size_6 a_age_6 a_train_6 a_car_6 a_place_6 a_links_6 a_roots_6 a_cars_39 a_from_6 plan_f_units plan_f_churn plan_f_statements plan_f_things plan_f_rootsTold plan_f_codes plan_a_size plan_a_begins plan_a_links plan_a_roots) := by
    intro a_age_6 a_car_6 a_from_6 a_links_6 a_place_6 a_roots_6 a_size_6 a_train_6 f_marked_6 f_step_6 f_there_6 i6 K6 hK6 f_trains_39 a_cars_39 g0_39 g1_39
    refine xR_st K pq_X10_settle 5 (pc' := 46) (L' := [some (.ref 0), some (.ref 1000), some (.int (nI i6)), none]) (S' := [.int (nI i6), .ref 1002, .int (nI i6), .ref 0]) (C' := mcX10_settle f_there_6 f_marked_6 f_trains_39 f_step_6 a_size_6 a_age_6 a_train_6 a_car_6 a_place_6 a_links_6 a_roots_6 a_cars_39 a_from_6 plan_f_units plan_f_churn plan_f_statements plan_f_things plan_f_rootsTold plan_f_codes plan_a_size plan_a_begins plan_a_links plan_a_roots) rfl trivial ?_
    refine xR_callS3 K pq_X10_settle rfl lk_X10_80 cy_X11_at ss_X11_at ar_X11_at (rest := [.int (nI i6), .ref 0]) (kX11_at l 24 (nI i6) plan_a_size (by first | assumption | decide | omega)) (by decide) (by decide) (S2 := [.int (mX11_at 24 (nI i6) plan_a_size), .int (nI i6), .ref 0]) (C2 := mcX10_settle f_there_6 f_marked_6 f_trains_39 f_step_6 a_size_6 a_age_6 a_train_6 a_car_6 a_place_6 a_links_6 a_roots_6 a_cars_39 a_from_6 plan_f_units plan_f_churn plan_f_statements plan_f_things plan_f_rootsTold plan_f_codes plan_a_size plan_a_begins plan_a_links plan_a_roots) (fun k => k - 1000 + 1002) [11] rfl rfl (Nat.le_of_ble_eq_true rfl) rfl (by decide) rfl rfl rfl ?_
    refine xR_let (enc := meX10_settle f_there f_marked f_trains f_step a_size a_age a_train a_car a_place a_links a_roots a_cars a_from plan_f_units plan_f_churn plan_f_statements plan_f_things plan_f_rootsTold plan_f_codes plan_a_size plan_a_begins plan_a_links plan_a_roots) (fun q7 hq7 => ?_)
    obtain ⟨q7_1, q7_2, q7_3⟩ := q7
    iterate 2 refine xR_u (enc := meX10_settle f_there f_marked f_trains f_step a_size a_age a_train a_car a_place a_links a_roots a_cars a_from plan_f_units plan_f_churn plan_f_statements plan_f_things plan_f_rootsTold plan_f_codes plan_a_size plan_a_begins plan_a_links plan_a_roots) ?_
    have hMq7 := kX10_add l (nI i6) (mX11_at 24 (nI i6) plan_a_size) f_there_6 f_marked_6 f_trains_39 f_step_6 a_size_6 a_age_6
    rw [← hq7] at hMq7
    refine xR_callV3 K pq_X10_settle rfl lk_X10_88 cy_X10_add si_X10_add ar_X10_add (rest := []) hMq7 (by decide) (by decide) rfl rfl (S2 := []) (C2 := mcX10_settle q7_1 f_marked_6 f_trains_39 f_step_6 q7_2 q7_3 a_train_6 a_car_6 a_place_6 a_links_6 a_roots_6 a_cars_39 a_from_6 plan_f_units plan_f_churn plan_f_statements plan_f_things plan_f_rootsTold plan_f_codes plan_a_size plan_a_begins plan_a_links plan_a_roots) id [0, 1, 2] rfl rfl (Nat.le_of_ble_eq_true rfl) rfl (by decide) rfl rfl rfl ?_
    refine xR_st K pq_X10_settle 8 (pc' := 64) (L' := [some (.ref 0), some (.ref 1000), some (.int (nI i6)), none]) (S' := [.int plan_f_units, .int (f_trains_39 - 1), .int (nI i6), .ref 0]) (C' := mcX10_settle q7_1 f_marked_6 f_trains_39 f_step_6 q7_2 q7_3 a_train_6 a_car_6 a_place_6 a_links_6 a_roots_6 a_cars_39 a_from_6 plan_f_units plan_f_churn plan_f_statements plan_f_things plan_f_rootsTold plan_f_codes plan_a_size plan_a_begins plan_a_links plan_a_roots) rfl trivial ?_
    refine xR_let (enc := meX10_settle f_there f_marked f_trains f_step a_size a_age a_train a_car a_place a_links a_roots a_cars a_from plan_f_units plan_f_churn plan_f_statements plan_f_things plan_f_rootsTold plan_f_codes plan_a_size plan_a_begins plan_a_links plan_a_roots) (fun q8 hq8 => ?_)
    obtain ⟨q8_1, q8_2, q8_3, q8_4⟩ := q8
    iterate 3 refine xR_u (enc := meX10_settle f_there f_marked f_trains f_step a_size a_age a_train a_car a_place a_links a_roots a_cars a_from plan_f_units plan_f_churn plan_f_statements plan_f_things plan_f_rootsTold plan_f_codes plan_a_size plan_a_begins plan_a_links plan_a_roots) ?_
    have hMq8 := kX10_lay l (nI i6) (f_trains_39 - 1) plan_f_units q7_1 f_marked_6 f_trains_39 f_step_6 q7_2 a_train_6 a_car_6 a_place_6 a_cars_39
    rw [← hq8] at hMq8
    refine xR_callV3 K pq_X10_settle rfl lk_X10_95 cy_X10_lay si_X10_lay ar_X10_lay (rest := []) hMq8 (by decide) (by decide) rfl rfl (S2 := []) (C2 := mcX10_settle q7_1 f_marked_6 f_trains_39 f_step_6 q7_2 q7_3 q8_1 q8_2 q8_3 a_links_6 a_roots_6 q8_4 a_from_6 plan_f_units plan_f_churn plan_f_statements plan_f_things plan_f_rootsTold plan_f_codes plan_a_size plan_a_begins plan_a_links plan_a_roots) id [0, 1, 3, 4, 5, 8] rfl rfl (Nat.le_of_ble_eq_true rfl) sh_X10_settle_0 (by decide) rfl rfl se_X10_settle_0 ?_
    refine xR_st K pq_X10_settle 2 (pc' := 6) (L' := [some (.ref 0), some (.ref 1000), some (.int ((nI i6) + 1)), none]) (S' := []) (C' := mcX10_settle q7_1 f_marked_6 f_trains_39 f_step_6 q7_2 q7_3 q8_1 q8_2 q8_3 a_links_6 a_roots_6 q8_4 a_from_6 plan_f_units plan_f_churn plan_f_statements plan_f_things plan_f_rootsTold plan_f_codes plan_a_size plan_a_begins plan_a_links plan_a_roots) rfl trivial ?_
    exact xR_less2 (hK6 _ _ _ _ _ _ _ _ _ _ _ _ _) ⟨rfl, rfl, xcnt i6, trivial⟩
  have J35 : ∀ (a_age_6 : Nat → Int32) (a_car_6 : Nat → Int32) (a_cars_6 : Nat → Int32) (a_from_6 : Nat → Int64) (a_links_6 : Nat → Int32) (a_place_6 : Nat → Int32) (a_roots_6 : Nat → Int32) (a_size_6 : Nat → Int32) (a_train_6 : Nat → Int32) (f_marked_6 : Int64) (f_step_6 : Int32) (f_there_6 : Int64) (f_trains_6 : Int32) (i6 : Nat) (K6 : Int64 → Int64 → Int32 → Int32 → (Nat → Int32) → (Nat → Int32) → (Nat → Int32) → (Nat → Int32) → (Nat → Int32) → (Nat → Int32) → (Nat → Int32) → (Nat → Int32) → (Nat → Int64) → Int64 × Int64 × Int32 × Int32 × (Nat → Int32) × (Nat → Int32) × (Nat → Int32) × (Nat → Int32) × (Nat → Int32) × (Nat → Int32) × (Nat → Int32) × (Nat → Int32) × (Nat → Int64)) (hK6 : ∀ (zf_there_6 : Int64) (zf_marked_6 : Int64) (zf_trains_6 : Int32) (zf_step_6 : Int32) (za_size_6 : Nat → Int32) (za_age_6 : Nat → Int32) (za_train_6 : Nat → Int32) (za_car_6 : Nat → Int32) (za_place_6 : Nat → Int32) (za_links_6 : Nat → Int32) (za_roots_6 : Nat → Int32) (za_cars_6 : Nat → Int32) (za_from_6 : Nat → Int64), xR X (meX10_settle f_there f_marked f_trains f_step a_size a_age a_train a_car a_place a_links a_roots a_cars a_from plan_f_units plan_f_churn plan_f_statements plan_f_things plan_f_rootsTold plan_f_codes plan_a_size plan_a_begins plan_a_links plan_a_roots (K6 zf_there_6 zf_marked_6 zf_trains_6 zf_step_6 za_size_6 za_age_6 za_train_6 za_car_6 za_place_6 za_links_6 za_roots_6 za_cars_6 za_from_6)) 6 [some (.ref 0), some (.ref 1000), some (.int (nI (i6 + 1))), none] [] (mcX10_settle zf_there_6 zf_marked_6 zf_trains_6 zf_step_6 za_size_6 za_age_6 za_train_6 za_car_6 za_place_6 za_links_6 za_roots_6 za_cars_6 za_from_6 plan_f_units plan_f_churn plan_f_statements plan_f_things plan_f_rootsTold plan_f_codes plan_a_size plan_a_begins plan_a_links plan_a_roots)) (g0_35 : (nI i6) < plan_f_things) (g1_35 : i6 < 24), xR X (meX10_settle f_there f_marked f_trains f_step a_size a_age a_train a_car a_place a_links a_roots a_cars a_from plan_f_units plan_f_churn plan_f_statements plan_f_things plan_f_rootsTold plan_f_codes plan_a_size plan_a_begins plan_a_links plan_a_roots (mX10_settle_35 plan_f_units plan_a_size a_age_6 a_car_6 a_cars_6 a_from_6 a_links_6 a_place_6 a_roots_6 a_size_6 a_train_6 f_marked_6 f_step_6 f_there_6 f_trains_6 i6 K6)) 35 [some (.ref 0), some (.ref 1000), some (.int (nI i6)), none] [] (mcX10_settle f_there_6 f_marked_6 f_trains_6 f_step_6 a_size_6 a_age_6 a_train_6 a_car_6 a_place_6 a_links_6 a_roots_6 a_cars_6 a_from_6 plan_f_units plan_f_churn plan_f_statements plan_f_things plan_f_rootsTold plan_f_codes plan_a_size plan_a_begins plan_a_links plan_a_roots) := by
    intro a_age_6 a_car_6 a_cars_6 a_from_6 a_links_6 a_place_6 a_roots_6 a_size_6 a_train_6 f_marked_6 f_step_6 f_there_6 f_trains_6 i6 K6 hK6 g0_35 g1_35
    refine xR_st K pq_X10_settle 1 (pc' := 36) (L' := [some (.ref 0), some (.ref 1000), some (.int (nI i6)), none]) (S' := [.ref 0]) (C' := mcX10_settle f_there_6 f_marked_6 f_trains_6 f_step_6 a_size_6 a_age_6 a_train_6 a_car_6 a_place_6 a_links_6 a_roots_6 a_cars_6 a_from_6 plan_f_units plan_f_churn plan_f_statements plan_f_things plan_f_rootsTold plan_f_codes plan_a_size plan_a_begins plan_a_links plan_a_roots) rfl trivial ?_
    refine xR_let (enc := meX10_settle f_there f_marked f_trains f_step a_size a_age a_train a_car a_place a_links a_roots a_cars a_from plan_f_units plan_f_churn plan_f_statements plan_f_things plan_f_rootsTold plan_f_codes plan_a_size plan_a_begins plan_a_links plan_a_roots) (fun q6 hq6 => ?_)
    obtain ⟨q6_1, q6_2⟩ := q6
    iterate 1 refine xR_u (enc := meX10_settle f_there f_marked f_trains f_step a_size a_age a_train a_car a_place a_links a_roots a_cars a_from plan_f_units plan_f_churn plan_f_statements plan_f_things plan_f_rootsTold plan_f_codes plan_a_size plan_a_begins plan_a_links plan_a_roots) ?_
    have hMq6 := kX10_beginTrain l f_there_6 f_marked_6 f_trains_6 f_step_6 a_cars_6
    rw [← hq6] at hMq6
    refine xR_callV3 K pq_X10_settle rfl lk_X10_84 cy_X10_beginTrain si_X10_beginTrain ar_X10_beginTrain (rest := []) hMq6 (by decide) (by decide) rfl rfl (S2 := []) (C2 := mcX10_settle f_there_6 f_marked_6 q6_1 f_step_6 a_size_6 a_age_6 a_train_6 a_car_6 a_place_6 a_links_6 a_roots_6 q6_2 a_from_6 plan_f_units plan_f_churn plan_f_statements plan_f_things plan_f_rootsTold plan_f_codes plan_a_size plan_a_begins plan_a_links plan_a_roots) id [0, 8] rfl rfl (Nat.le_of_ble_eq_true rfl) rfl (by decide) rfl rfl rfl ?_
    exact xR_less2 (J39 a_age_6 a_car_6 a_from_6 a_links_6 a_place_6 a_roots_6 a_size_6 a_train_6 f_marked_6 f_step_6 f_there_6 i6 _ hK6 _ _ g0_35 g1_35) ⟨rfl, rfl, rfl, trivial⟩
  have J6 : ∀ (k6 i6 : Nat) (f_there_6 : Int64) (f_marked_6 : Int64) (f_trains_6 : Int32) (f_step_6 : Int32) (a_size_6 : Nat → Int32) (a_age_6 : Nat → Int32) (a_train_6 : Nat → Int32) (a_car_6 : Nat → Int32) (a_place_6 : Nat → Int32) (a_links_6 : Nat → Int32) (a_roots_6 : Nat → Int32) (a_cars_6 : Nat → Int32) (a_from_6 : Nat → Int64) (hik6 : i6 + k6 = 24), xR X (meX10_settle f_there f_marked f_trains f_step a_size a_age a_train a_car a_place a_links a_roots a_cars a_from plan_f_units plan_f_churn plan_f_statements plan_f_things plan_f_rootsTold plan_f_codes plan_a_size plan_a_begins plan_a_links plan_a_roots (mX10_settle_6 plan_f_units plan_f_things plan_a_size plan_a_begins plan_a_links plan_a_roots k6 i6 f_there_6 f_marked_6 f_trains_6 f_step_6 a_size_6 a_age_6 a_train_6 a_car_6 a_place_6 a_links_6 a_roots_6 a_cars_6 a_from_6)) 6 [some (.ref 0), some (.ref 1000), some (.int (nI i6)), none] [] (mcX10_settle f_there_6 f_marked_6 f_trains_6 f_step_6 a_size_6 a_age_6 a_train_6 a_car_6 a_place_6 a_links_6 a_roots_6 a_cars_6 a_from_6 plan_f_units plan_f_churn plan_f_statements plan_f_things plan_f_rootsTold plan_f_codes plan_a_size plan_a_begins plan_a_links plan_a_roots) := by
    intro k6
    induction k6 with
    | zero =>
      intro i6 f_there_6 f_marked_6 f_trains_6 f_step_6 a_size_6 a_age_6 a_train_6 a_car_6 a_place_6 a_links_6 a_roots_6 a_cars_6 a_from_6 hik6
      rw [mX10_settle_6.eq_1]
      refine xR_st K pq_X10_settle 3 (pc' := 11) (L' := [some (.ref 0), some (.ref 1000), some (.int (nI i6)), none]) (S' := [.int plan_f_things, .int (nI i6)]) (C' := mcX10_settle f_there_6 f_marked_6 f_trains_6 f_step_6 a_size_6 a_age_6 a_train_6 a_car_6 a_place_6 a_links_6 a_roots_6 a_cars_6 a_from_6 plan_f_units plan_f_churn plan_f_statements plan_f_things plan_f_rootsTold plan_f_codes plan_a_size plan_a_begins plan_a_links plan_a_roots) rfl trivial ?_
      refine xR_i2 (enc := meX10_settle f_there f_marked f_trains f_step a_size a_age a_train a_car a_place a_links a_roots a_cars a_from plan_f_units plan_f_churn plan_f_statements plan_f_things plan_f_rootsTold plan_f_codes plan_a_size plan_a_begins plan_a_links plan_a_roots) (q1 := 14) (q2 := 73) K pq_X10_settle rfl rfl rfl rfl (fun h5 => ?_) (fun h5 => ?_)
      · refine xR_st K pq_X10_settle 2 (pc' := 17) (L' := [some (.ref 0), some (.ref 1000), some (.int (nI i6)), none]) (S' := [.int 24, .int (nI i6)]) (C' := mcX10_settle f_there_6 f_marked_6 f_trains_6 f_step_6 a_size_6 a_age_6 a_train_6 a_car_6 a_place_6 a_links_6 a_roots_6 a_cars_6 a_from_6 plan_f_units plan_f_churn plan_f_statements plan_f_things plan_f_rootsTold plan_f_codes plan_a_size plan_a_begins plan_a_links plan_a_roots) rfl trivial ?_
        refine xR_if2 K pq_X10_settle rfl ⟨rfl, rfl⟩ (fun _ => ?_) (fun hx => absurd hx (xlt_no 24 hik6 (by first | assumption | decide)))
        refine xR_st K pq_X10_settle 2 (pc' := 75) (L' := [some (.ref 0), some (.ref 1000), some (.int 0), none]) (S' := []) (C' := mcX10_settle f_there_6 f_marked_6 f_trains_6 f_step_6 a_size_6 a_age_6 a_train_6 a_car_6 a_place_6 a_links_6 a_roots_6 a_cars_6 a_from_6 plan_f_units plan_f_churn plan_f_statements plan_f_things plan_f_rootsTold plan_f_codes plan_a_size plan_a_begins plan_a_links plan_a_roots) rfl trivial ?_
        exact xR_less2 (J75 _ _ _ _ _ _ _ _ _ _ _ _ _ _ _ (by first | rfl | omega)) ⟨rfl, rfl, rfl, trivial⟩
      · refine xR_st K pq_X10_settle 2 (pc' := 75) (L' := [some (.ref 0), some (.ref 1000), some (.int 0), none]) (S' := []) (C' := mcX10_settle f_there_6 f_marked_6 f_trains_6 f_step_6 a_size_6 a_age_6 a_train_6 a_car_6 a_place_6 a_links_6 a_roots_6 a_cars_6 a_from_6 plan_f_units plan_f_churn plan_f_statements plan_f_things plan_f_rootsTold plan_f_codes plan_a_size plan_a_begins plan_a_links plan_a_roots) rfl trivial ?_
        exact xR_less2 (J75 _ _ _ _ _ _ _ _ _ _ _ _ _ _ _ (by first | rfl | omega)) ⟨rfl, rfl, rfl, trivial⟩
    | succ k6 ih =>
      intro i6 f_there_6 f_marked_6 f_trains_6 f_step_6 a_size_6 a_age_6 a_train_6 a_car_6 a_place_6 a_links_6 a_roots_6 a_cars_6 a_from_6 hik6
      rw [mX10_settle_6.eq_2]
      refine xR_st K pq_X10_settle 3 (pc' := 11) (L' := [some (.ref 0), some (.ref 1000), some (.int (nI i6)), none]) (S' := [.int plan_f_things, .int (nI i6)]) (C' := mcX10_settle f_there_6 f_marked_6 f_trains_6 f_step_6 a_size_6 a_age_6 a_train_6 a_car_6 a_place_6 a_links_6 a_roots_6 a_cars_6 a_from_6 plan_f_units plan_f_churn plan_f_statements plan_f_things plan_f_rootsTold plan_f_codes plan_a_size plan_a_begins plan_a_links plan_a_roots) rfl trivial ?_
      refine xR_i2 (enc := meX10_settle f_there f_marked f_trains f_step a_size a_age a_train a_car a_place a_links a_roots a_cars a_from plan_f_units plan_f_churn plan_f_statements plan_f_things plan_f_rootsTold plan_f_codes plan_a_size plan_a_begins plan_a_links plan_a_roots) (q1 := 14) (q2 := 73) K pq_X10_settle rfl rfl rfl rfl (fun h2 => ?_) (fun h2 => ?_)
      · refine xR_st K pq_X10_settle 2 (pc' := 17) (L' := [some (.ref 0), some (.ref 1000), some (.int (nI i6)), none]) (S' := [.int 24, .int (nI i6)]) (C' := mcX10_settle f_there_6 f_marked_6 f_trains_6 f_step_6 a_size_6 a_age_6 a_train_6 a_car_6 a_place_6 a_links_6 a_roots_6 a_cars_6 a_from_6 plan_f_units plan_f_churn plan_f_statements plan_f_things plan_f_rootsTold plan_f_codes plan_a_size plan_a_begins plan_a_links plan_a_roots) rfl trivial ?_
        refine xR_if2 K pq_X10_settle rfl ⟨rfl, rfl⟩ (fun hx => absurd (xlt_yes 24 hik6 (by first | assumption | decide)) hx) (fun _ => ?_)
        refine xR_st K pq_X10_settle 1 (pc' := 21) (L' := [some (.ref 0), some (.ref 1000), some (.int (nI i6)), none]) (S' := [.int (nI i6)]) (C' := mcX10_settle f_there_6 f_marked_6 f_trains_6 f_step_6 a_size_6 a_age_6 a_train_6 a_car_6 a_place_6 a_links_6 a_roots_6 a_cars_6 a_from_6 plan_f_units plan_f_churn plan_f_statements plan_f_things plan_f_rootsTold plan_f_codes plan_a_size plan_a_begins plan_a_links plan_a_roots) rfl trivial ?_
        refine xR_i0 (enc := meX10_settle f_there f_marked f_trains f_step a_size a_age a_train a_car a_place a_links a_roots a_cars a_from plan_f_units plan_f_churn plan_f_statements plan_f_things plan_f_rootsTold plan_f_codes plan_a_size plan_a_begins plan_a_links plan_a_roots) (q1 := 35) (q2 := 24) K pq_X10_settle rfl rfl rfl rfl (fun h3 => ?_) (fun h3 => ?_)
        · exact xR_less2 (J35 a_age_6 a_car_6 a_cars_6 a_from_6 a_links_6 a_place_6 a_roots_6 a_size_6 a_train_6 f_marked_6 f_step_6 f_there_6 f_trains_6 i6 _ (fun zf_there_6 zf_marked_6 zf_trains_6 zf_step_6 za_size_6 za_age_6 za_train_6 za_car_6 za_place_6 za_links_6 za_roots_6 za_cars_6 za_from_6 => ih (i6 + 1) zf_there_6 zf_marked_6 zf_trains_6 zf_step_6 za_size_6 za_age_6 za_train_6 za_car_6 za_place_6 za_links_6 za_roots_6 za_cars_6 za_from_6 (by omega)) h2 (by omega)) ⟨rfl, rfl, rfl, trivial⟩
        · refine xR_st K pq_X10_settle 3 (pc' := 29) (L' := [some (.ref 0), some (.ref 1000), some (.int (nI i6)), none]) (S' := [.int (nI i6), .ref 1003]) (C' := mcX10_settle f_there_6 f_marked_6 f_trains_6 f_step_6 a_size_6 a_age_6 a_train_6 a_car_6 a_place_6 a_links_6 a_roots_6 a_cars_6 a_from_6 plan_f_units plan_f_churn plan_f_statements plan_f_things plan_f_rootsTold plan_f_codes plan_a_size plan_a_begins plan_a_links plan_a_roots) rfl trivial ?_
          refine xR_callS3 K pq_X10_settle rfl lk_X10_80 cy_X11_at ss_X11_at ar_X11_at (rest := []) (kX11_at l 24 (nI i6) plan_a_begins (by first | assumption | decide | omega)) (by decide) (by decide) (S2 := [.int (mX11_at 24 (nI i6) plan_a_begins)]) (C2 := mcX10_settle f_there_6 f_marked_6 f_trains_6 f_step_6 a_size_6 a_age_6 a_train_6 a_car_6 a_place_6 a_links_6 a_roots_6 a_cars_6 a_from_6 plan_f_units plan_f_churn plan_f_statements plan_f_things plan_f_rootsTold plan_f_codes plan_a_size plan_a_begins plan_a_links plan_a_roots) (fun k => k - 1000 + 1003) [12] rfl rfl (Nat.le_of_ble_eq_true rfl) rfl (by decide) rfl rfl rfl ?_
          refine xR_i0 (enc := meX10_settle f_there f_marked f_trains f_step a_size a_age a_train a_car a_place a_links a_roots a_cars a_from plan_f_units plan_f_churn plan_f_statements plan_f_things plan_f_rootsTold plan_f_codes plan_a_size plan_a_begins plan_a_links plan_a_roots) (q1 := 39) (q2 := 35) K pq_X10_settle rfl rfl rfl rfl (fun h4 => ?_) (fun h4 => ?_)
          · exact xR_less2 (J39 a_age_6 a_car_6 a_from_6 a_links_6 a_place_6 a_roots_6 a_size_6 a_train_6 f_marked_6 f_step_6 f_there_6 i6 _ (fun zf_there_6 zf_marked_6 zf_trains_6 zf_step_6 za_size_6 za_age_6 za_train_6 za_car_6 za_place_6 za_links_6 za_roots_6 za_cars_6 za_from_6 => ih (i6 + 1) zf_there_6 zf_marked_6 zf_trains_6 zf_step_6 za_size_6 za_age_6 za_train_6 za_car_6 za_place_6 za_links_6 za_roots_6 za_cars_6 za_from_6 (by omega)) _ _ h2 (by omega)) ⟨rfl, rfl, rfl, trivial⟩
          · exact xR_less2 (J35 a_age_6 a_car_6 a_cars_6 a_from_6 a_links_6 a_place_6 a_roots_6 a_size_6 a_train_6 f_marked_6 f_step_6 f_there_6 f_trains_6 i6 _ (fun zf_there_6 zf_marked_6 zf_trains_6 zf_step_6 za_size_6 za_age_6 za_train_6 za_car_6 za_place_6 za_links_6 za_roots_6 za_cars_6 za_from_6 => ih (i6 + 1) zf_there_6 zf_marked_6 zf_trains_6 zf_step_6 za_size_6 za_age_6 za_train_6 za_car_6 za_place_6 za_links_6 za_roots_6 za_cars_6 za_from_6 (by omega)) h2 (by omega)) ⟨rfl, rfl, rfl, trivial⟩
      · refine xR_st K pq_X10_settle 2 (pc' := 75) (L' := [some (.ref 0), some (.ref 1000), some (.int 0), none]) (S' := []) (C' := mcX10_settle f_there_6 f_marked_6 f_trains_6 f_step_6 a_size_6 a_age_6 a_train_6 a_car_6 a_place_6 a_links_6 a_roots_6 a_cars_6 a_from_6 plan_f_units plan_f_churn plan_f_statements plan_f_things plan_f_rootsTold plan_f_codes plan_a_size plan_a_begins plan_a_links plan_a_roots) rfl trivial ?_
        exact xR_less2 (J75 _ _ _ _ _ _ _ _ _ _ _ _ _ _ _ (by first | rfl | omega)) ⟨rfl, rfl, rfl, trivial⟩
  refine xR_st K pq_X10_settle 1 (pc' := 1) (L' := [some (.ref 0), some (.ref 1000), none, none]) (S' := [.ref 0]) (C' := mcX10_settle f_there f_marked f_trains f_step a_size a_age a_train a_car a_place a_links a_roots a_cars a_from plan_f_units plan_f_churn plan_f_statements plan_f_things plan_f_rootsTold plan_f_codes plan_a_size plan_a_begins plan_a_links plan_a_roots) rfl trivial ?_
  refine xR_let (enc := meX10_settle f_there f_marked f_trains f_step a_size a_age a_train a_car a_place a_links a_roots a_cars a_from plan_f_units plan_f_churn plan_f_statements plan_f_things plan_f_rootsTold plan_f_codes plan_a_size plan_a_begins plan_a_links plan_a_roots) (fun q1 hq1 => ?_)
  obtain ⟨q1_1, q1_2, q1_3, q1_4, q1_5, q1_6, q1_7, q1_8, q1_9, q1_10⟩ := q1
  iterate 9 refine xR_u (enc := meX10_settle f_there f_marked f_trains f_step a_size a_age a_train a_car a_place a_links a_roots a_cars a_from plan_f_units plan_f_churn plan_f_statements plan_f_things plan_f_rootsTold plan_f_codes plan_a_size plan_a_begins plan_a_links plan_a_roots) ?_
  have hMq1 := kX10_clear l f_there f_marked f_trains f_step a_size a_age a_links a_roots a_cars a_from
  rw [← hq1] at hMq1
  refine xR_callV3 K pq_X10_settle rfl lk_X10_69 cy_X10_clear si_X10_clear ar_X10_clear (rest := []) hMq1 (by decide) (by decide) rfl rfl (S2 := []) (C2 := mcX10_settle q1_1 q1_2 q1_3 q1_4 q1_5 q1_6 a_train a_car a_place q1_7 q1_8 q1_9 q1_10 plan_f_units plan_f_churn plan_f_statements plan_f_things plan_f_rootsTold plan_f_codes plan_a_size plan_a_begins plan_a_links plan_a_roots) id [0, 1, 2, 6, 7, 8, 9] rfl rfl (Nat.le_of_ble_eq_true rfl) sh_X10_settle_1 (by decide) rfl rfl se_X10_settle_1 ?_
  refine xR_st K pq_X10_settle 2 (pc' := 6) (L' := [some (.ref 0), some (.ref 1000), some (.int 0), none]) (S' := []) (C' := mcX10_settle q1_1 q1_2 q1_3 q1_4 q1_5 q1_6 a_train a_car a_place q1_7 q1_8 q1_9 q1_10 plan_f_units plan_f_churn plan_f_statements plan_f_things plan_f_rootsTold plan_f_codes plan_a_size plan_a_begins plan_a_links plan_a_roots) rfl trivial ?_
  exact xR_less2 (J6 _ _ _ _ _ _ _ _ _ _ _ _ _ _ _ (by first | rfl | omega)) ⟨rfl, rfl, rfl, trivial⟩
def pg_X10_isThere : xPg := [(0, .aload_n 0, .null), (1, .getfield 49, .retAddr 1009), (4, .iload_n 1, .null), (5, .invokestatic 104, .null), (8, .ireturn, .null)]
theorem pq_X10_isThere : xPq RX10 cX10_isThere tb_X10 pg_X10_isThere := ⟨tab_X10, xPok_of (by decide +kernel)⟩
theorem cy_X10_isThere : xCy yX10_isThere cX10_isThere 2 (some .boolean) := ⟨xtb_in (i := 994) (by decide +kernel) rfl, xtb_in (i := 156) (by decide +kernel) rfl, by decide +kernel, by decide +kernel⟩
theorem si_X10_isThere : Cond.instanceMethod yX10_isThere ∈ xtb ∧ Cond.selects yX10_isThere.cls yX10_isThere yX10_isThere ∈ xtb := ⟨xtb_in (i := 992) (by decide +kernel) rfl, xtb_in (i := 993) (by decide +kernel) rfl⟩
theorem ar_X10_isThere : xar yX10_isThere 1 := by unfold xar; decide +kernel
def mcX10_isThere (f_there : Int64) (f_marked : Int64) (f_trains : Int32) (f_step : Int32) : xC := [(0, .inr (10, [.ref 1, .ref 2, .ref 3, .ref 4, .ref 5, .ref 6, .ref 7, .ref 8, .ref 9, .long f_there, .long f_marked, .int f_trains, .int f_step]))]
def meX10_isThere (f_there : Int64) (f_marked : Int64) (f_trains : Int32) (f_step : Int32) : Bool → xRes := fun r => some (some (.int (xb r)), mcX10_isThere f_there f_marked f_trains f_step)
def mX10_isThere (v_t : Int32) (f_there : Int64) : Bool :=
  mX11_in f_there v_t
set_option maxRecDepth 100000 in
set_option maxHeartbeats 1500000 in
theorem kX10_isThere (l : Launch) (v_t : Int32) (f_there : Int64) (f_marked : Int64) (f_trains : Int32) (f_step : Int32)  : xMet l 1 yX10_isThere cX10_isThere 2 (some .boolean) [.ref 0, .int v_t] (mcX10_isThere f_there f_marked f_trains f_step) (meX10_isThere f_there f_marked f_trains f_step (mX10_isThere v_t f_there)) := by
  refine xMet_of cy_X10_isThere [some (.ref 0), some (.int v_t)] rfl (Nat.le_of_ble_eq_true rfl) (fun X K => ?_)
  refine xR_st K pq_X10_isThere 3 (pc' := 5) (L' := [some (.ref 0), some (.int v_t)]) (S' := [.int v_t, .long f_there]) (C' := mcX10_isThere f_there f_marked f_trains f_step) rfl trivial ?_
  refine xR_callS3 K pq_X10_isThere rfl lk_X10_104 cy_X11_in ss_X11_in ar_X11_in (rest := []) (kX11_in l f_there v_t) (by decide) (by decide) (S2 := [.int (xb (mX11_in f_there v_t))]) (C2 := mcX10_isThere f_there f_marked f_trains f_step) id [] rfl rfl (Nat.le_of_ble_eq_true rfl) rfl (by decide) rfl rfl rfl ?_
  exact xR_retb (b := mX11_in f_there v_t) K pq_X10_isThere rfl
def pg_X10_leastFree : xPg := [(0, .iconst 0, .int 0), (1, .istore_n 1, .null), (2, .iload_n 1, .null), (3, .bipush 40, .int 40), (5, .if_icmp .ge 22, .retAddr 27), (8, .aload_n 0, .null), (9, .getfield 49, .retAddr 1009), (12, .iload_n 1, .null), (13, .invokestatic 104, .null), (16, .ifCond .ne 5, .retAddr 21), (19, .iload_n 1, .null), (20, .ireturn, .null), (21, .iinc 1 1, .int 1), (24, .goto (-22), .retAddr 2), (27, .iconst (-1), .int (-1)), (28, .ireturn, .null)]
theorem pq_X10_leastFree : xPq RX10 cX10_leastFree tb_X10 pg_X10_leastFree := ⟨tab_X10, xPok_of (by decide +kernel)⟩
theorem cy_X10_leastFree : xCy yX10_leastFree cX10_leastFree 2 (some .int) := ⟨xtb_in (i := 1371) (by decide +kernel) rfl, xtb_in (i := 156) (by decide +kernel) rfl, by decide +kernel, by decide +kernel⟩
theorem si_X10_leastFree : Cond.instanceMethod yX10_leastFree ∈ xtb ∧ Cond.selects yX10_leastFree.cls yX10_leastFree yX10_leastFree ∈ xtb := ⟨xtb_in (i := 1369) (by decide +kernel) rfl, xtb_in (i := 1370) (by decide +kernel) rfl⟩
theorem ar_X10_leastFree : xar yX10_leastFree 0 := by unfold xar; decide +kernel
def mcX10_leastFree (f_there : Int64) (f_marked : Int64) (f_trains : Int32) (f_step : Int32) : xC := [(0, .inr (10, [.ref 1, .ref 2, .ref 3, .ref 4, .ref 5, .ref 6, .ref 7, .ref 8, .ref 9, .long f_there, .long f_marked, .int f_trains, .int f_step]))]
def meX10_leastFree (f_there : Int64) (f_marked : Int64) (f_trains : Int32) (f_step : Int32) : Int32 → xRes := fun r => some (some (.int r), mcX10_leastFree f_there f_marked f_trains f_step)
def mX10_leastFree_2 (f_there : Int64)  : Nat → Nat → Int32
  | 0, i2 => ((-1) : Int32)
  | k2 + 1, i2 =>
    if (mX11_in f_there (nI i2)) = true then
      mX10_leastFree_2 f_there k2 (i2 + 1)
    else
      nI i2
def mX10_leastFree (f_there : Int64) : Int32 :=
  mX10_leastFree_2 f_there 40 0
set_option maxRecDepth 100000 in
set_option maxHeartbeats 1500000 in
theorem kX10_leastFree (l : Launch) (f_there : Int64) (f_marked : Int64) (f_trains : Int32) (f_step : Int32)  : xMet l 1 yX10_leastFree cX10_leastFree 2 (some .int) [.ref 0] (mcX10_leastFree f_there f_marked f_trains f_step) (meX10_leastFree f_there f_marked f_trains f_step (mX10_leastFree f_there)) := by
  refine xMet_of cy_X10_leastFree [some (.ref 0), none] rfl (Nat.le_of_ble_eq_true rfl) (fun X K => ?_)
  have J2 : ∀ (k2 i2 : Nat) (hik2 : i2 + k2 = 40), xR X (meX10_leastFree f_there f_marked f_trains f_step (mX10_leastFree_2 f_there k2 i2)) 2 [some (.ref 0), some (.int (nI i2))] [] (mcX10_leastFree f_there f_marked f_trains f_step) := by
    intro k2
    induction k2 with
    | zero =>
      intro i2 hik2
      rw [mX10_leastFree_2.eq_1]
      refine xR_st K pq_X10_leastFree 2 (pc' := 5) (L' := [some (.ref 0), some (.int (nI i2))]) (S' := [.int 40, .int (nI i2)]) (C' := mcX10_leastFree f_there f_marked f_trains f_step) rfl trivial ?_
      refine xR_if2 K pq_X10_leastFree rfl ⟨rfl, rfl⟩ (fun _ => ?_) (fun hx => absurd hx (xlt_no 40 hik2 (by first | assumption | decide)))
      refine xR_st K pq_X10_leastFree 1 (pc' := 28) (L' := [some (.ref 0), some (.int (nI i2))]) (S' := [.int (-1)]) (C' := mcX10_leastFree f_there f_marked f_trains f_step) rfl trivial ?_
      exact xR_ret K pq_X10_leastFree rfl
    | succ k2 ih =>
      intro i2 hik2
      rw [mX10_leastFree_2.eq_2]
      refine xR_st K pq_X10_leastFree 2 (pc' := 5) (L' := [some (.ref 0), some (.int (nI i2))]) (S' := [.int 40, .int (nI i2)]) (C' := mcX10_leastFree f_there f_marked f_trains f_step) rfl trivial ?_
      refine xR_if2 K pq_X10_leastFree rfl ⟨rfl, rfl⟩ (fun hx => absurd (xlt_yes 40 hik2 (by first | assumption | decide)) hx) (fun _ => ?_)
      refine xR_st K pq_X10_leastFree 3 (pc' := 13) (L' := [some (.ref 0), some (.int (nI i2))]) (S' := [.int (nI i2), .long f_there]) (C' := mcX10_leastFree f_there f_marked f_trains f_step) rfl trivial ?_
      refine xR_callS3 K pq_X10_leastFree rfl lk_X10_104 cy_X11_in ss_X11_in ar_X11_in (rest := []) (kX11_in l f_there (nI i2)) (by decide) (by decide) (S2 := [.int (xb (mX11_in f_there (nI i2)))]) (C2 := mcX10_leastFree f_there f_marked f_trains f_step) id [] rfl rfl (Nat.le_of_ble_eq_true rfl) rfl (by decide) rfl rfl rfl ?_
      refine xR_ib (enc := meX10_leastFree f_there f_marked f_trains f_step) (q1 := 21) (q2 := 19) K pq_X10_leastFree rfl (by first | exact Or.inl rfl | exact Or.inr rfl) rfl rfl (fun h1 => ?_) (fun h1 => ?_)
      · refine xR_st K pq_X10_leastFree 2 (pc' := 2) (L' := [some (.ref 0), some (.int ((nI i2) + 1))]) (S' := []) (C' := mcX10_leastFree f_there f_marked f_trains f_step) rfl trivial ?_
        exact xR_less2 (ih (i2 + 1) (by omega)) ⟨rfl, xcnt i2, trivial⟩
      · refine xR_st K pq_X10_leastFree 1 (pc' := 20) (L' := [some (.ref 0), some (.int (nI i2))]) (S' := [.int (nI i2)]) (C' := mcX10_leastFree f_there f_marked f_trains f_step) rfl trivial ?_
        exact xR_ret K pq_X10_leastFree rfl
  refine xR_st K pq_X10_leastFree 2 (pc' := 2) (L' := [some (.ref 0), some (.int 0)]) (S' := []) (C' := mcX10_leastFree f_there f_marked f_trains f_step) rfl trivial ?_
  exact xR_less2 (J2 _ _ (by first | rfl | omega)) ⟨rfl, rfl, trivial⟩
def pg_X10_drop : xPg := [(0, .iconst 0, .int 0), (1, .istore_n 2, .null), (2, .iload_n 2, .null), (3, .iconst 4, .int 4), (4, .if_icmp .ge 22, .retAddr 26), (7, .aload_n 0, .null), (8, .getfield 27, .retAddr 1005), (11, .iload_n 1, .null), (12, .iconst 4, .int 4), (13, .imul, .null), (14, .iload_n 2, .null), (15, .iadd, .null), (16, .iconst (-1), .int (-1)), (17, .invokestatic 108, .null), (20, .iinc 2 1, .int 1), (23, .goto (-21), .retAddr 2), (26, .iconst 0, .int 0), (27, .istore_n 2, .null), (28, .iload_n 2, .null), (29, .bipush 40, .int 40), (31, .if_icmp .ge 26, .retAddr 57), (34, .aload_n 0, .null), (35, .getfield 36, .retAddr 1008), (38, .iload_n 2, .null), (39, .dup2, .null), (40, .laload, .null), (41, .iload_n 1, .null), (42, .invokestatic 112, .null), (45, .ldc2_w 116, .long (-1)), (48, .lxor, .null), (49, .land, .null), (50, .lastore, .null), (51, .iinc 2 1, .int 1), (54, .goto (-26), .retAddr 28), (57, .aload_n 0, .null), (58, .getfield 9, .retAddr 1000), (61, .iload_n 1, .null), (62, .iconst 0, .int 0), (63, .invokestatic 108, .null), (66, .aload_n 0, .null), (67, .dup, .null), (68, .getfield 49, .retAddr 1009), (71, .iload_n 1, .null), (72, .invokestatic 112, .null), (75, .ldc2_w 116, .long (-1)), (78, .lxor, .null), (79, .land, .null), (80, .putfield 49, .retAddr 1009), (83, .aload_n 0, .null), (84, .dup, .null), (85, .getfield 53, .retAddr 1010), (88, .iload_n 1, .null), (89, .invokestatic 112, .null), (92, .ldc2_w 116, .long (-1)), (95, .lxor, .null), (96, .land, .null), (97, .putfield 53, .retAddr 1010), (100, .return_, .null)]
theorem pq_X10_drop : xPq RX10 cX10_drop tb_X10 pg_X10_drop := ⟨tab_X10, xPok_of (by decide +kernel)⟩
theorem cy_X10_drop : xCy yX10_drop cX10_drop 3 none := ⟨xtb_in (i := 1158) (by decide +kernel) rfl, xtb_in (i := 156) (by decide +kernel) rfl, by decide +kernel, by decide +kernel⟩
theorem si_X10_drop : Cond.instanceMethod yX10_drop ∈ xtb ∧ Cond.selects yX10_drop.cls yX10_drop yX10_drop ∈ xtb := ⟨xtb_in (i := 1156) (by decide +kernel) rfl, xtb_in (i := 1157) (by decide +kernel) rfl⟩
theorem ar_X10_drop : xar yX10_drop 1 := by unfold xar; decide +kernel
def mcX10_drop (f_there : Int64) (f_marked : Int64) (f_trains : Int32) (f_step : Int32) (a_size : Nat → Int32) (a_links : Nat → Int32) (a_from : Nat → Int64) : xC := [(0, .inr (10, [.ref 1, .ref 2, .ref 3, .ref 4, .ref 5, .ref 6, .ref 7, .ref 8, .ref 9, .long f_there, .long f_marked, .int f_trains, .int f_step])), (1, .inl (0, 40, .inl a_size)), (6, .inl (0, 160, .inl a_links)), (9, .inl (1, 40, .inr (.inl a_from)))]
def meX10_drop (f_there : Int64) (f_marked : Int64) (f_trains : Int32) (f_step : Int32) (a_size : Nat → Int32) (a_links : Nat → Int32) (a_from : Nat → Int64) : Int64 × Int64 × (Nat → Int32) × (Nat → Int32) × (Nat → Int64) → xRes := fun r => some (none, mcX10_drop r.1 r.2.1 f_trains f_step r.2.2.1 r.2.2.2.1 r.2.2.2.2)
def mX10_drop_28 (v_t : Int32) (f_there : Int64) (f_marked : Int64) (a_size : Nat → Int32)  : Nat → Nat → (Nat → Int32) → (Nat → Int64) → Int64 × Int64 × (Nat → Int32) × (Nat → Int32) × (Nat → Int64)
  | 0, i28, a_links_28, a_from_28 => xlet (mX11_put 40 v_t (0 : Int32) a_size) (fun q2 =>
      (f_there &&& ((mX11_bit v_t) ^^^ (-1)), f_marked &&& ((mX11_bit v_t) ^^^ (-1)), q2, a_links_28, a_from_28))
  | k28 + 1, i28, a_links_28, a_from_28 =>
    mX10_drop_28 v_t f_there f_marked a_size k28 (i28 + 1) a_links_28 (vp_updL a_from_28 (nI i28).toNatClampNeg ((a_from_28 (nI i28).toNatClampNeg) &&& ((mX11_bit v_t) ^^^ (-1))))
def mX10_drop_2 (v_t : Int32) (f_there : Int64) (f_marked : Int64) (a_size : Nat → Int32) (a_from : Nat → Int64)  : Nat → Nat → (Nat → Int32) → Int64 × Int64 × (Nat → Int32) × (Nat → Int32) × (Nat → Int64)
  | 0, i2, a_links_2 => mX10_drop_28 v_t f_there f_marked a_size 40 0 a_links_2 a_from
  | k2 + 1, i2, a_links_2 =>
    xlet (mX11_put 160 ((v_t * 4) + (nI i2)) ((-1) : Int32) a_links_2) (fun q1 =>
      mX10_drop_2 v_t f_there f_marked a_size a_from k2 (i2 + 1) q1)
def mX10_drop (v_t : Int32) (f_there : Int64) (f_marked : Int64) (a_size : Nat → Int32) (a_links : Nat → Int32) (a_from : Nat → Int64) : Int64 × Int64 × (Nat → Int32) × (Nat → Int32) × (Nat → Int64) :=
  mX10_drop_2 v_t f_there f_marked a_size a_from 4 0 a_links
set_option maxRecDepth 100000 in
set_option maxHeartbeats 1500000 in
theorem kX10_drop (l : Launch) (v_t : Int32) (f_there : Int64) (f_marked : Int64) (f_trains : Int32) (f_step : Int32) (a_size : Nat → Int32) (a_links : Nat → Int32) (a_from : Nat → Int64)  : xMet l 1 yX10_drop cX10_drop 3 none [.ref 0, .int v_t] (mcX10_drop f_there f_marked f_trains f_step a_size a_links a_from) (meX10_drop f_there f_marked f_trains f_step a_size a_links a_from (mX10_drop v_t f_there f_marked a_size a_links a_from)) := by
  refine xMet_of cy_X10_drop [some (.ref 0), some (.int v_t), none] rfl (Nat.le_of_ble_eq_true rfl) (fun X K => ?_)
  have J28 : ∀ (k28 i28 : Nat) (a_links_28 : Nat → Int32) (a_from_28 : Nat → Int64) (hik28 : i28 + k28 = 40), xR X (meX10_drop f_there f_marked f_trains f_step a_size a_links a_from (mX10_drop_28 v_t f_there f_marked a_size k28 i28 a_links_28 a_from_28)) 28 [some (.ref 0), some (.int v_t), some (.int (nI i28))] [] (mcX10_drop f_there f_marked f_trains f_step a_size a_links_28 a_from_28) := by
    intro k28
    induction k28 with
    | zero =>
      intro i28 a_links_28 a_from_28 hik28
      rw [mX10_drop_28.eq_1]
      refine xR_st K pq_X10_drop 2 (pc' := 31) (L' := [some (.ref 0), some (.int v_t), some (.int (nI i28))]) (S' := [.int 40, .int (nI i28)]) (C' := mcX10_drop f_there f_marked f_trains f_step a_size a_links_28 a_from_28) rfl trivial ?_
      refine xR_if2 K pq_X10_drop rfl ⟨rfl, rfl⟩ (fun _ => ?_) (fun hx => absurd hx (xlt_no 40 hik28 (by first | assumption | decide)))
      refine xR_st K pq_X10_drop 4 (pc' := 63) (L' := [some (.ref 0), some (.int v_t), some (.int (nI i28))]) (S' := [.int 0, .int v_t, .ref 1]) (C' := mcX10_drop f_there f_marked f_trains f_step a_size a_links_28 a_from_28) rfl trivial ?_
      refine xR_let (enc := meX10_drop f_there f_marked f_trains f_step a_size a_links a_from) (fun q2 hq2 => ?_)
      have hMq2 := kX11_put l 40 v_t (0 : Int32) a_size (by first | assumption | decide | omega)
      rw [← hq2] at hMq2
      refine xR_callS3 K pq_X10_drop rfl lk_X10_108 cy_X11_put ss_X11_put ar_X11_put (rest := []) hMq2 (by decide) (by decide) (S2 := []) (C2 := mcX10_drop f_there f_marked f_trains f_step q2 a_links_28 a_from_28) (fun k => k - 1000 + 1) [1] rfl rfl (Nat.le_of_ble_eq_true rfl) rfl (by decide) rfl rfl rfl ?_
      refine xR_st K pq_X10_drop 4 (pc' := 72) (L' := [some (.ref 0), some (.int v_t), some (.int (nI i28))]) (S' := [.int v_t, .long f_there, .ref 0]) (C' := mcX10_drop f_there f_marked f_trains f_step q2 a_links_28 a_from_28) rfl trivial ?_
      refine xR_callS3 K pq_X10_drop rfl lk_X10_112 cy_X11_bit ss_X11_bit ar_X11_bit (rest := [.long f_there, .ref 0]) (kX11_bit l v_t) (by decide) (by decide) (S2 := [.long (mX11_bit v_t), .long f_there, .ref 0]) (C2 := mcX10_drop f_there f_marked f_trains f_step q2 a_links_28 a_from_28) id [] rfl rfl (Nat.le_of_ble_eq_true rfl) rfl (by decide) rfl rfl rfl ?_
      refine xR_st K pq_X10_drop 8 (pc' := 89) (L' := [some (.ref 0), some (.int v_t), some (.int (nI i28))]) (S' := [.int v_t, .long f_marked, .ref 0]) (C' := mcX10_drop (f_there &&& ((mX11_bit v_t) ^^^ (-1))) f_marked f_trains f_step q2 a_links_28 a_from_28) rfl ⟨trivial, trivial⟩ ?_
      refine xR_callS3 K pq_X10_drop rfl lk_X10_112 cy_X11_bit ss_X11_bit ar_X11_bit (rest := [.long f_marked, .ref 0]) (kX11_bit l v_t) (by decide) (by decide) (S2 := [.long (mX11_bit v_t), .long f_marked, .ref 0]) (C2 := mcX10_drop (f_there &&& ((mX11_bit v_t) ^^^ (-1))) f_marked f_trains f_step q2 a_links_28 a_from_28) id [] rfl rfl (Nat.le_of_ble_eq_true rfl) rfl (by decide) rfl rfl rfl ?_
      refine xR_st K pq_X10_drop 4 (pc' := 100) (L' := [some (.ref 0), some (.int v_t), some (.int (nI i28))]) (S' := []) (C' := mcX10_drop (f_there &&& ((mX11_bit v_t) ^^^ (-1))) (f_marked &&& ((mX11_bit v_t) ^^^ (-1))) f_trains f_step q2 a_links_28 a_from_28) rfl ⟨trivial, trivial⟩ ?_
      exact xR_retv K pq_X10_drop rfl
    | succ k28 ih =>
      intro i28 a_links_28 a_from_28 hik28
      rw [mX10_drop_28.eq_2]
      refine xR_st K pq_X10_drop 2 (pc' := 31) (L' := [some (.ref 0), some (.int v_t), some (.int (nI i28))]) (S' := [.int 40, .int (nI i28)]) (C' := mcX10_drop f_there f_marked f_trains f_step a_size a_links_28 a_from_28) rfl trivial ?_
      refine xR_if2 K pq_X10_drop rfl ⟨rfl, rfl⟩ (fun hx => absurd (xlt_yes 40 hik28 (by first | assumption | decide)) hx) (fun _ => ?_)
      refine xR_st K pq_X10_drop 6 (pc' := 42) (L' := [some (.ref 0), some (.int v_t), some (.int (nI i28))]) (S' := [.int v_t, .long (a_from_28 (nI i28).toNatClampNeg), .int (nI i28), .ref 9]) (C' := mcX10_drop f_there f_marked f_trains f_step a_size a_links_28 a_from_28) rfl ⟨xin_nat rfl (by omega) (by first | assumption | decide), trivial⟩ ?_
      refine xR_callS3 K pq_X10_drop rfl lk_X10_112 cy_X11_bit ss_X11_bit ar_X11_bit (rest := [.long (a_from_28 (nI i28).toNatClampNeg), .int (nI i28), .ref 9]) (kX11_bit l v_t) (by decide) (by decide) (S2 := [.long (mX11_bit v_t), .long (a_from_28 (nI i28).toNatClampNeg), .int (nI i28), .ref 9]) (C2 := mcX10_drop f_there f_marked f_trains f_step a_size a_links_28 a_from_28) id [] rfl rfl (Nat.le_of_ble_eq_true rfl) rfl (by decide) rfl rfl rfl ?_
      refine xR_st K pq_X10_drop 6 (pc' := 28) (L' := [some (.ref 0), some (.int v_t), some (.int ((nI i28) + 1))]) (S' := []) (C' := mcX10_drop f_there f_marked f_trains f_step a_size a_links_28 (vp_updL a_from_28 (nI i28).toNatClampNeg ((a_from_28 (nI i28).toNatClampNeg) &&& ((mX11_bit v_t) ^^^ (-1))))) rfl ⟨xin_nat rfl (by omega) (by first | assumption | decide), trivial⟩ ?_
      exact xR_less2 (ih (i28 + 1) _ _ (by omega)) ⟨rfl, rfl, xcnt i28, trivial⟩
  have J2 : ∀ (k2 i2 : Nat) (a_links_2 : Nat → Int32) (hik2 : i2 + k2 = 4), xR X (meX10_drop f_there f_marked f_trains f_step a_size a_links a_from (mX10_drop_2 v_t f_there f_marked a_size a_from k2 i2 a_links_2)) 2 [some (.ref 0), some (.int v_t), some (.int (nI i2))] [] (mcX10_drop f_there f_marked f_trains f_step a_size a_links_2 a_from) := by
    intro k2
    induction k2 with
    | zero =>
      intro i2 a_links_2 hik2
      rw [mX10_drop_2.eq_1]
      refine xR_st K pq_X10_drop 2 (pc' := 4) (L' := [some (.ref 0), some (.int v_t), some (.int (nI i2))]) (S' := [.int 4, .int (nI i2)]) (C' := mcX10_drop f_there f_marked f_trains f_step a_size a_links_2 a_from) rfl trivial ?_
      refine xR_if2 K pq_X10_drop rfl ⟨rfl, rfl⟩ (fun _ => ?_) (fun hx => absurd hx (xlt_no 4 hik2 (by first | assumption | decide)))
      refine xR_st K pq_X10_drop 2 (pc' := 28) (L' := [some (.ref 0), some (.int v_t), some (.int 0)]) (S' := []) (C' := mcX10_drop f_there f_marked f_trains f_step a_size a_links_2 a_from) rfl trivial ?_
      exact xR_less2 (J28 _ _ _ _ (by first | rfl | omega)) ⟨rfl, rfl, rfl, trivial⟩
    | succ k2 ih =>
      intro i2 a_links_2 hik2
      rw [mX10_drop_2.eq_2]
      refine xR_st K pq_X10_drop 2 (pc' := 4) (L' := [some (.ref 0), some (.int v_t), some (.int (nI i2))]) (S' := [.int 4, .int (nI i2)]) (C' := mcX10_drop f_there f_marked f_trains f_step a_size a_links_2 a_from) rfl trivial ?_
      refine xR_if2 K pq_X10_drop rfl ⟨rfl, rfl⟩ (fun hx => absurd (xlt_yes 4 hik2 (by first | assumption | decide)) hx) (fun _ => ?_)
      refine xR_st K pq_X10_drop 8 (pc' := 17) (L' := [some (.ref 0), some (.int v_t), some (.int (nI i2))]) (S' := [.int (-1), .int ((v_t * 4) + (nI i2)), .ref 6]) (C' := mcX10_drop f_there f_marked f_trains f_step a_size a_links_2 a_from) rfl trivial ?_
      refine xR_let (enc := meX10_drop f_there f_marked f_trains f_step a_size a_links a_from) (fun q1 hq1 => ?_)
      have hMq1 := kX11_put l 160 ((v_t * 4) + (nI i2)) ((-1) : Int32) a_links_2 (by first | assumption | decide | omega)
      rw [← hq1] at hMq1
      refine xR_callS3 K pq_X10_drop rfl lk_X10_108 cy_X11_put ss_X11_put ar_X11_put (rest := []) hMq1 (by decide) (by decide) (S2 := []) (C2 := mcX10_drop f_there f_marked f_trains f_step a_size q1 a_from) (fun k => k - 1000 + 6) [2] rfl rfl (Nat.le_of_ble_eq_true rfl) rfl (by decide) rfl rfl rfl ?_
      refine xR_st K pq_X10_drop 2 (pc' := 2) (L' := [some (.ref 0), some (.int v_t), some (.int ((nI i2) + 1))]) (S' := []) (C' := mcX10_drop f_there f_marked f_trains f_step a_size q1 a_from) rfl trivial ?_
      exact xR_less2 (ih (i2 + 1) _ (by omega)) ⟨rfl, rfl, xcnt i2, trivial⟩
  refine xR_st K pq_X10_drop 2 (pc' := 2) (L' := [some (.ref 0), some (.int v_t), some (.int 0)]) (S' := []) (C' := mcX10_drop f_there f_marked f_trains f_step a_size a_links a_from) rfl trivial ?_
  exact xR_less2 (J2 _ _ _ (by first | rfl | omega)) ⟨rfl, rfl, rfl, trivial⟩
def pg_X10_dropFirstTrain : xPg := [(0, .iconst 0, .int 0), (1, .istore_n 1, .null), (2, .iload_n 1, .null), (3, .bipush 40, .int 40), (5, .if_icmp .ge 19, .retAddr 24), (8, .aload_n 0, .null), (9, .getfield 18, .retAddr 1002), (12, .iload_n 1, .null), (13, .dup2, .null), (14, .iaload, .null), (15, .iconst 1, .int 1), (16, .isub, .null), (17, .iastore, .null), (18, .iinc 1 1, .int 1), (21, .goto (-19), .retAddr 2), (24, .aload_n 0, .null), (25, .getfield 33, .retAddr 1007), (28, .iconst 1, .int 1), (29, .aload_n 0, .null), (30, .getfield 33, .retAddr 1007), (33, .iconst 0, .int 0), (34, .bipush 41, .int 41), (36, .invokestatic 63, .null), (39, .aload_n 0, .null), (40, .dup, .null), (41, .getfield 56, .retAddr 1011), (44, .iconst 1, .int 1), (45, .isub, .null), (46, .putfield 56, .retAddr 1011), (49, .return_, .null)]
theorem pq_X10_dropFirstTrain : xPq RX10 cX10_dropFirstTrain tb_X10 pg_X10_dropFirstTrain := ⟨tab_X10, xPok_of (by decide +kernel)⟩
theorem cy_X10_dropFirstTrain : xCy yX10_dropFirstTrain cX10_dropFirstTrain 2 none := ⟨xtb_in (i := 1170) (by decide +kernel) rfl, xtb_in (i := 156) (by decide +kernel) rfl, by decide +kernel, by decide +kernel⟩
theorem si_X10_dropFirstTrain : Cond.instanceMethod yX10_dropFirstTrain ∈ xtb ∧ Cond.selects yX10_dropFirstTrain.cls yX10_dropFirstTrain yX10_dropFirstTrain ∈ xtb := ⟨xtb_in (i := 1168) (by decide +kernel) rfl, xtb_in (i := 1169) (by decide +kernel) rfl⟩
theorem ar_X10_dropFirstTrain : xar yX10_dropFirstTrain 0 := by unfold xar; decide +kernel
def mcX10_dropFirstTrain (f_there : Int64) (f_marked : Int64) (f_trains : Int32) (f_step : Int32) (a_train : Nat → Int32) (a_cars : Nat → Int32) : xC := [(0, .inr (10, [.ref 1, .ref 2, .ref 3, .ref 4, .ref 5, .ref 6, .ref 7, .ref 8, .ref 9, .long f_there, .long f_marked, .int f_trains, .int f_step])), (3, .inl (0, 40, .inl a_train)), (8, .inl (0, 42, .inl a_cars))]
def meX10_dropFirstTrain (f_there : Int64) (f_marked : Int64) (f_trains : Int32) (f_step : Int32) (a_train : Nat → Int32) (a_cars : Nat → Int32) : Int32 × (Nat → Int32) × (Nat → Int32) → xRes := fun r => some (none, mcX10_dropFirstTrain f_there f_marked r.1 f_step r.2.1 r.2.2)
def mX10_dropFirstTrain_2 (f_trains : Int32) (a_cars : Nat → Int32)  : Nat → Nat → (Nat → Int32) → Int32 × (Nat → Int32) × (Nat → Int32)
  | 0, i2, a_train_2 => (f_trains - 1, a_train_2, va_cpy a_cars a_cars 1 0 41)
  | k2 + 1, i2, a_train_2 =>
    mX10_dropFirstTrain_2 f_trains a_cars k2 (i2 + 1) (upd a_train_2 (nI i2).toNatClampNeg ((a_train_2 (nI i2).toNatClampNeg) - 1))
def mX10_dropFirstTrain (f_trains : Int32) (a_train : Nat → Int32) (a_cars : Nat → Int32) : Int32 × (Nat → Int32) × (Nat → Int32) :=
  mX10_dropFirstTrain_2 f_trains a_cars 40 0 a_train
set_option maxRecDepth 100000 in
set_option maxHeartbeats 1500000 in
theorem kX10_dropFirstTrain (l : Launch) (f_there : Int64) (f_marked : Int64) (f_trains : Int32) (f_step : Int32) (a_train : Nat → Int32) (a_cars : Nat → Int32)  : xMet l 1 yX10_dropFirstTrain cX10_dropFirstTrain 2 none [.ref 0] (mcX10_dropFirstTrain f_there f_marked f_trains f_step a_train a_cars) (meX10_dropFirstTrain f_there f_marked f_trains f_step a_train a_cars (mX10_dropFirstTrain f_trains a_train a_cars)) := by
  refine xMet_of cy_X10_dropFirstTrain [some (.ref 0), none] rfl (Nat.le_of_ble_eq_true rfl) (fun X K => ?_)
  have J2 : ∀ (k2 i2 : Nat) (a_train_2 : Nat → Int32) (hik2 : i2 + k2 = 40), xR X (meX10_dropFirstTrain f_there f_marked f_trains f_step a_train a_cars (mX10_dropFirstTrain_2 f_trains a_cars k2 i2 a_train_2)) 2 [some (.ref 0), some (.int (nI i2))] [] (mcX10_dropFirstTrain f_there f_marked f_trains f_step a_train_2 a_cars) := by
    intro k2
    induction k2 with
    | zero =>
      intro i2 a_train_2 hik2
      rw [mX10_dropFirstTrain_2.eq_1]
      refine xR_st K pq_X10_dropFirstTrain 2 (pc' := 5) (L' := [some (.ref 0), some (.int (nI i2))]) (S' := [.int 40, .int (nI i2)]) (C' := mcX10_dropFirstTrain f_there f_marked f_trains f_step a_train_2 a_cars) rfl trivial ?_
      refine xR_if2 K pq_X10_dropFirstTrain rfl ⟨rfl, rfl⟩ (fun _ => ?_) (fun hx => absurd hx (xlt_no 40 hik2 (by first | assumption | decide)))
      refine xR_st K pq_X10_dropFirstTrain 7 (pc' := 36) (L' := [some (.ref 0), some (.int (nI i2))]) (S' := [.int 41, .int 0, .ref 8, .int 1, .ref 8]) (C' := mcX10_dropFirstTrain f_there f_marked f_trains f_step a_train_2 a_cars) rfl trivial ?_
      refine xR_copyi K pq_X10_dropFirstTrain rfl (xlkc_X10) 2 2 rfl rfl (by decide) (by decide) (by decide) (by decide) (by decide) (by decide) (Nat.le_of_ble_eq_true rfl) (C2 := mcX10_dropFirstTrain f_there f_marked f_trains f_step a_train_2 (va_cpy a_cars a_cars 1 0 41)) rfl ?_
      refine xR_st K pq_X10_dropFirstTrain 6 (pc' := 49) (L' := [some (.ref 0), some (.int (nI i2))]) (S' := []) (C' := mcX10_dropFirstTrain f_there f_marked (f_trains - 1) f_step a_train_2 (va_cpy a_cars a_cars 1 0 41)) rfl ⟨trivial, trivial⟩ ?_
      exact xR_retv K pq_X10_dropFirstTrain rfl
    | succ k2 ih =>
      intro i2 a_train_2 hik2
      rw [mX10_dropFirstTrain_2.eq_2]
      refine xR_st K pq_X10_dropFirstTrain 2 (pc' := 5) (L' := [some (.ref 0), some (.int (nI i2))]) (S' := [.int 40, .int (nI i2)]) (C' := mcX10_dropFirstTrain f_there f_marked f_trains f_step a_train_2 a_cars) rfl trivial ?_
      refine xR_if2 K pq_X10_dropFirstTrain rfl ⟨rfl, rfl⟩ (fun hx => absurd (xlt_yes 40 hik2 (by first | assumption | decide)) hx) (fun _ => ?_)
      refine xR_st K pq_X10_dropFirstTrain 10 (pc' := 2) (L' := [some (.ref 0), some (.int ((nI i2) + 1))]) (S' := []) (C' := mcX10_dropFirstTrain f_there f_marked f_trains f_step (upd a_train_2 (nI i2).toNatClampNeg ((a_train_2 (nI i2).toNatClampNeg) - 1)) a_cars) rfl ⟨xin_nat rfl (by omega) (by first | assumption | decide), xin_nat rfl (by omega) (by first | assumption | decide), trivial⟩ ?_
      exact xR_less2 (ih (i2 + 1) _ (by omega)) ⟨rfl, xcnt i2, trivial⟩
  refine xR_st K pq_X10_dropFirstTrain 2 (pc' := 2) (L' := [some (.ref 0), some (.int 0)]) (S' := []) (C' := mcX10_dropFirstTrain f_there f_marked f_trains f_step a_train a_cars) rfl trivial ?_
  exact xR_less2 (J2 _ _ _ (by first | rfl | omega)) ⟨rfl, rfl, trivial⟩
def pg_X10_dropFirstCar : xPg := [(0, .iconst 0, .int 0), (1, .istore_n 1, .null), (2, .iload_n 1, .null), (3, .bipush 40, .int 40), (5, .if_icmp .ge 28, .retAddr 33), (8, .aload_n 0, .null), (9, .getfield 18, .retAddr 1002), (12, .iload_n 1, .null), (13, .iaload, .null), (14, .ifCond .ne 13, .retAddr 27), (17, .aload_n 0, .null), (18, .getfield 21, .retAddr 1003), (21, .iload_n 1, .null), (22, .dup2, .null), (23, .iaload, .null), (24, .iconst 1, .int 1), (25, .isub, .null), (26, .iastore, .null), (27, .iinc 1 1, .int 1), (30, .goto (-28), .retAddr 2), (33, .aload_n 0, .null), (34, .getfield 33, .retAddr 1007), (37, .iconst 0, .int 0), (38, .dup2, .null), (39, .iaload, .null), (40, .iconst 1, .int 1), (41, .isub, .null), (42, .iastore, .null), (43, .aload_n 0, .null), (44, .getfield 33, .retAddr 1007), (47, .iconst 0, .int 0), (48, .iaload, .null), (49, .ifCond .gt 7, .retAddr 56), (52, .aload_n 0, .null), (53, .invokevirtual 118, .null), (56, .return_, .null)]
theorem pq_X10_dropFirstCar : xPq RX10 cX10_dropFirstCar tb_X10 pg_X10_dropFirstCar := ⟨tab_X10, xPok_of (by decide +kernel)⟩
theorem cy_X10_dropFirstCar : xCy yX10_dropFirstCar cX10_dropFirstCar 2 none := ⟨xtb_in (i := 1166) (by decide +kernel) rfl, xtb_in (i := 156) (by decide +kernel) rfl, by decide +kernel, by decide +kernel⟩
theorem si_X10_dropFirstCar : Cond.instanceMethod yX10_dropFirstCar ∈ xtb ∧ Cond.selects yX10_dropFirstCar.cls yX10_dropFirstCar yX10_dropFirstCar ∈ xtb := ⟨xtb_in (i := 1164) (by decide +kernel) rfl, xtb_in (i := 1165) (by decide +kernel) rfl⟩
theorem ar_X10_dropFirstCar : xar yX10_dropFirstCar 0 := by unfold xar; decide +kernel
def mcX10_dropFirstCar (f_there : Int64) (f_marked : Int64) (f_trains : Int32) (f_step : Int32) (a_train : Nat → Int32) (a_car : Nat → Int32) (a_cars : Nat → Int32) : xC := [(0, .inr (10, [.ref 1, .ref 2, .ref 3, .ref 4, .ref 5, .ref 6, .ref 7, .ref 8, .ref 9, .long f_there, .long f_marked, .int f_trains, .int f_step])), (3, .inl (0, 40, .inl a_train)), (4, .inl (0, 40, .inl a_car)), (8, .inl (0, 42, .inl a_cars))]
def meX10_dropFirstCar (f_there : Int64) (f_marked : Int64) (f_trains : Int32) (f_step : Int32) (a_train : Nat → Int32) (a_car : Nat → Int32) (a_cars : Nat → Int32) : Int32 × (Nat → Int32) × (Nat → Int32) × (Nat → Int32) → xRes := fun r => some (none, mcX10_dropFirstCar f_there f_marked r.1 f_step r.2.1 r.2.2.1 r.2.2.2)
def mX10_dropFirstCar_2 (f_trains : Int32) (a_train : Nat → Int32) (a_cars : Nat → Int32)  : Nat → Nat → (Nat → Int32) → Int32 × (Nat → Int32) × (Nat → Int32) × (Nat → Int32)
  | 0, i2, a_car_2 => if 0 < ((upd a_cars (0 : Int32).toNatClampNeg ((a_cars (0 : Int32).toNatClampNeg) - 1)) (0 : Int32).toNatClampNeg) then
      (f_trains, a_train, a_car_2, upd a_cars (0 : Int32).toNatClampNeg ((a_cars (0 : Int32).toNatClampNeg) - 1))
    else
      xlet (mX10_dropFirstTrain f_trains a_train (upd a_cars (0 : Int32).toNatClampNeg ((a_cars (0 : Int32).toNatClampNeg) - 1))) (xu fun q3_1 => xu fun q3_2 => fun q3_3 =>
        (q3_1, q3_2, a_car_2, q3_3))
  | k2 + 1, i2, a_car_2 =>
    if (a_train (nI i2).toNatClampNeg) = 0 then
      mX10_dropFirstCar_2 f_trains a_train a_cars k2 (i2 + 1) (upd a_car_2 (nI i2).toNatClampNeg ((a_car_2 (nI i2).toNatClampNeg) - 1))
    else
      mX10_dropFirstCar_2 f_trains a_train a_cars k2 (i2 + 1) a_car_2
def mX10_dropFirstCar (f_trains : Int32) (a_train : Nat → Int32) (a_car : Nat → Int32) (a_cars : Nat → Int32) : Int32 × (Nat → Int32) × (Nat → Int32) × (Nat → Int32) :=
  mX10_dropFirstCar_2 f_trains a_train a_cars 40 0 a_car
set_option maxRecDepth 100000 in
set_option maxHeartbeats 1500000 in
theorem kX10_dropFirstCar (l : Launch) (f_there : Int64) (f_marked : Int64) (f_trains : Int32) (f_step : Int32) (a_train : Nat → Int32) (a_car : Nat → Int32) (a_cars : Nat → Int32)  : xMet l 2 yX10_dropFirstCar cX10_dropFirstCar 2 none [.ref 0] (mcX10_dropFirstCar f_there f_marked f_trains f_step a_train a_car a_cars) (meX10_dropFirstCar f_there f_marked f_trains f_step a_train a_car a_cars (mX10_dropFirstCar f_trains a_train a_car a_cars)) := by
  refine xMet_of cy_X10_dropFirstCar [some (.ref 0), none] rfl (Nat.le_of_ble_eq_true rfl) (fun X K => ?_)
  have J2 : ∀ (k2 i2 : Nat) (a_car_2 : Nat → Int32) (hik2 : i2 + k2 = 40), xR X (meX10_dropFirstCar f_there f_marked f_trains f_step a_train a_car a_cars (mX10_dropFirstCar_2 f_trains a_train a_cars k2 i2 a_car_2)) 2 [some (.ref 0), some (.int (nI i2))] [] (mcX10_dropFirstCar f_there f_marked f_trains f_step a_train a_car_2 a_cars) := by
    intro k2
    induction k2 with
    | zero =>
      intro i2 a_car_2 hik2
      rw [mX10_dropFirstCar_2.eq_1]
      refine xR_st K pq_X10_dropFirstCar 2 (pc' := 5) (L' := [some (.ref 0), some (.int (nI i2))]) (S' := [.int 40, .int (nI i2)]) (C' := mcX10_dropFirstCar f_there f_marked f_trains f_step a_train a_car_2 a_cars) rfl trivial ?_
      refine xR_if2 K pq_X10_dropFirstCar rfl ⟨rfl, rfl⟩ (fun _ => ?_) (fun hx => absurd hx (xlt_no 40 hik2 (by first | assumption | decide)))
      refine xR_st K pq_X10_dropFirstCar 12 (pc' := 49) (L' := [some (.ref 0), some (.int (nI i2))]) (S' := [.int ((upd a_cars (0 : Int32).toNatClampNeg ((a_cars (0 : Int32).toNatClampNeg) - 1)) (0 : Int32).toNatClampNeg)]) (C' := mcX10_dropFirstCar f_there f_marked f_trains f_step a_train a_car_2 (upd a_cars (0 : Int32).toNatClampNeg ((a_cars (0 : Int32).toNatClampNeg) - 1))) rfl ⟨xin_nat (a := 0) rfl (by decide) (by decide), xin_nat (a := 0) rfl (by decide) (by decide), xin_nat (a := 0) rfl (by decide) (by decide), trivial⟩ ?_
      refine xR_i0 (enc := meX10_dropFirstCar f_there f_marked f_trains f_step a_train a_car a_cars) (q1 := 56) (q2 := 52) K pq_X10_dropFirstCar rfl rfl rfl rfl (fun h2 => ?_) (fun h2 => ?_)
      · exact xR_retv K pq_X10_dropFirstCar rfl
      · refine xR_st K pq_X10_dropFirstCar 1 (pc' := 53) (L' := [some (.ref 0), some (.int (nI i2))]) (S' := [.ref 0]) (C' := mcX10_dropFirstCar f_there f_marked f_trains f_step a_train a_car_2 (upd a_cars (0 : Int32).toNatClampNeg ((a_cars (0 : Int32).toNatClampNeg) - 1))) rfl trivial ?_
        refine xR_let (enc := meX10_dropFirstCar f_there f_marked f_trains f_step a_train a_car a_cars) (fun q3 hq3 => ?_)
        obtain ⟨q3_1, q3_2, q3_3⟩ := q3
        iterate 2 refine xR_u (enc := meX10_dropFirstCar f_there f_marked f_trains f_step a_train a_car a_cars) ?_
        have hMq3 := kX10_dropFirstTrain l f_there f_marked f_trains f_step a_train (upd a_cars (0 : Int32).toNatClampNeg ((a_cars (0 : Int32).toNatClampNeg) - 1))
        rw [← hq3] at hMq3
        refine xR_callV3 K pq_X10_dropFirstCar rfl lk_X10_118 cy_X10_dropFirstTrain si_X10_dropFirstTrain ar_X10_dropFirstTrain (rest := []) hMq3 (by decide) (by decide) rfl rfl (S2 := []) (C2 := mcX10_dropFirstCar f_there f_marked q3_1 f_step q3_2 a_car_2 q3_3) id [0, 1, 3] rfl rfl (Nat.le_of_ble_eq_true rfl) rfl (by decide) rfl rfl rfl ?_
        exact xR_retv K pq_X10_dropFirstCar rfl
    | succ k2 ih =>
      intro i2 a_car_2 hik2
      rw [mX10_dropFirstCar_2.eq_2]
      refine xR_st K pq_X10_dropFirstCar 2 (pc' := 5) (L' := [some (.ref 0), some (.int (nI i2))]) (S' := [.int 40, .int (nI i2)]) (C' := mcX10_dropFirstCar f_there f_marked f_trains f_step a_train a_car_2 a_cars) rfl trivial ?_
      refine xR_if2 K pq_X10_dropFirstCar rfl ⟨rfl, rfl⟩ (fun hx => absurd (xlt_yes 40 hik2 (by first | assumption | decide)) hx) (fun _ => ?_)
      refine xR_st K pq_X10_dropFirstCar 4 (pc' := 14) (L' := [some (.ref 0), some (.int (nI i2))]) (S' := [.int (a_train (nI i2).toNatClampNeg)]) (C' := mcX10_dropFirstCar f_there f_marked f_trains f_step a_train a_car_2 a_cars) rfl ⟨xin_nat rfl (by omega) (by first | assumption | decide), trivial⟩ ?_
      refine xR_i0 (enc := meX10_dropFirstCar f_there f_marked f_trains f_step a_train a_car a_cars) (q1 := 17) (q2 := 27) K pq_X10_dropFirstCar rfl rfl rfl rfl (fun h1 => ?_) (fun h1 => ?_)
      · refine xR_st K pq_X10_dropFirstCar 10 (pc' := 2) (L' := [some (.ref 0), some (.int ((nI i2) + 1))]) (S' := []) (C' := mcX10_dropFirstCar f_there f_marked f_trains f_step a_train (upd a_car_2 (nI i2).toNatClampNeg ((a_car_2 (nI i2).toNatClampNeg) - 1)) a_cars) rfl ⟨xin_nat rfl (by omega) (by first | assumption | decide), xin_nat rfl (by omega) (by first | assumption | decide), trivial⟩ ?_
        exact xR_less2 (ih (i2 + 1) _ (by omega)) ⟨rfl, xcnt i2, trivial⟩
      · refine xR_st K pq_X10_dropFirstCar 2 (pc' := 2) (L' := [some (.ref 0), some (.int ((nI i2) + 1))]) (S' := []) (C' := mcX10_dropFirstCar f_there f_marked f_trains f_step a_train a_car_2 a_cars) rfl trivial ?_
        exact xR_less2 (ih (i2 + 1) _ (by omega)) ⟨rfl, xcnt i2, trivial⟩
  refine xR_st K pq_X10_dropFirstCar 2 (pc' := 2) (L' := [some (.ref 0), some (.int 0)]) (S' := []) (C' := mcX10_dropFirstCar f_there f_marked f_trains f_step a_train a_car a_cars) rfl trivial ?_
  exact xR_less2 (J2 _ _ _ (by first | rfl | omega)) ⟨rfl, rfl, trivial⟩
def pg_X10_pass : xPg := [(0, .iconst 0, .int 0), (1, .istore_n 1, .null), (2, .iload_n 1, .null), (3, .bipush 40, .int 40), (5, .if_icmp .ge 39, .retAddr 44), (8, .aload_n 0, .null), (9, .getfield 9, .retAddr 1000), (12, .iload_n 1, .null), (13, .iaload, .null), (14, .ifCond .le 24, .retAddr 38), (17, .aload_n 0, .null), (18, .getfield 15, .retAddr 1001), (21, .iload_n 1, .null), (22, .iaload, .null), (23, .bipush 99, .int 99), (25, .if_icmp .ge 13, .retAddr 38), (28, .aload_n 0, .null), (29, .getfield 15, .retAddr 1001), (32, .iload_n 1, .null), (33, .dup2, .null), (34, .iaload, .null), (35, .iconst 1, .int 1), (36, .iadd, .null), (37, .iastore, .null), (38, .iinc 1 1, .int 1), (41, .goto (-39), .retAddr 2), (44, .aload_n 0, .null), (45, .dup, .null), (46, .getfield 60, .retAddr 1012), (49, .aload_n 0, .null), (50, .getfield 60, .retAddr 1012), (53, .sipush 999, .int 999), (56, .if_icmp .ge 7, .retAddr 63), (59, .iconst 1, .int 1), (60, .goto 4, .retAddr 64), (63, .iconst 0, .int 0), (64, .iadd, .null), (65, .putfield 60, .retAddr 1012), (68, .return_, .null)]
theorem pq_X10_pass : xPq RX10 cX10_pass tb_X10 pg_X10_pass := ⟨tab_X10, xPok_of (by decide +kernel)⟩
theorem cy_X10_pass : xCy yX10_pass cX10_pass 2 none := ⟨xtb_in (i := 1183) (by decide +kernel) rfl, xtb_in (i := 156) (by decide +kernel) rfl, by decide +kernel, by decide +kernel⟩
theorem si_X10_pass : Cond.instanceMethod yX10_pass ∈ xtb ∧ Cond.selects yX10_pass.cls yX10_pass yX10_pass ∈ xtb := ⟨xtb_in (i := 1181) (by decide +kernel) rfl, xtb_in (i := 1182) (by decide +kernel) rfl⟩
theorem ar_X10_pass : xar yX10_pass 0 := by unfold xar; decide +kernel
def mcX10_pass (f_there : Int64) (f_marked : Int64) (f_trains : Int32) (f_step : Int32) (a_size : Nat → Int32) (a_age : Nat → Int32) : xC := [(0, .inr (10, [.ref 1, .ref 2, .ref 3, .ref 4, .ref 5, .ref 6, .ref 7, .ref 8, .ref 9, .long f_there, .long f_marked, .int f_trains, .int f_step])), (1, .inl (0, 40, .inl a_size)), (2, .inl (0, 40, .inl a_age))]
def meX10_pass (f_there : Int64) (f_marked : Int64) (f_trains : Int32) (f_step : Int32) (a_size : Nat → Int32) (a_age : Nat → Int32) : Int32 × (Nat → Int32) → xRes := fun r => some (none, mcX10_pass f_there f_marked f_trains r.1 a_size r.2)
def mX10_pass_2 (f_step : Int32) (a_size : Nat → Int32)  : Nat → Nat → (Nat → Int32) → Int32 × (Nat → Int32)
  | 0, i2, a_age_2 => if f_step < 999 then
      (f_step + 1, a_age_2)
    else
      (f_step + 0, a_age_2)
  | k2 + 1, i2, a_age_2 =>
    if 0 < (a_size (nI i2).toNatClampNeg) then
      if (a_age_2 (nI i2).toNatClampNeg) < 99 then
        mX10_pass_2 f_step a_size k2 (i2 + 1) (upd a_age_2 (nI i2).toNatClampNeg ((a_age_2 (nI i2).toNatClampNeg) + 1))
      else
        mX10_pass_2 f_step a_size k2 (i2 + 1) a_age_2
    else
      mX10_pass_2 f_step a_size k2 (i2 + 1) a_age_2
def mX10_pass (f_step : Int32) (a_size : Nat → Int32) (a_age : Nat → Int32) : Int32 × (Nat → Int32) :=
  mX10_pass_2 f_step a_size 40 0 a_age
set_option maxRecDepth 100000 in
set_option maxHeartbeats 1500000 in
theorem kX10_pass (l : Launch) (f_there : Int64) (f_marked : Int64) (f_trains : Int32) (f_step : Int32) (a_size : Nat → Int32) (a_age : Nat → Int32)  : xMet l 0 yX10_pass cX10_pass 2 none [.ref 0] (mcX10_pass f_there f_marked f_trains f_step a_size a_age) (meX10_pass f_there f_marked f_trains f_step a_size a_age (mX10_pass f_step a_size a_age)) := by
  refine xMet_of cy_X10_pass [some (.ref 0), none] rfl (Nat.le_of_ble_eq_true rfl) (fun X K => ?_)
  have J2 : ∀ (k2 i2 : Nat) (a_age_2 : Nat → Int32) (hik2 : i2 + k2 = 40), xR X (meX10_pass f_there f_marked f_trains f_step a_size a_age (mX10_pass_2 f_step a_size k2 i2 a_age_2)) 2 [some (.ref 0), some (.int (nI i2))] [] (mcX10_pass f_there f_marked f_trains f_step a_size a_age_2) := by
    intro k2
    induction k2 with
    | zero =>
      intro i2 a_age_2 hik2
      rw [mX10_pass_2.eq_1]
      refine xR_st K pq_X10_pass 2 (pc' := 5) (L' := [some (.ref 0), some (.int (nI i2))]) (S' := [.int 40, .int (nI i2)]) (C' := mcX10_pass f_there f_marked f_trains f_step a_size a_age_2) rfl trivial ?_
      refine xR_if2 K pq_X10_pass rfl ⟨rfl, rfl⟩ (fun _ => ?_) (fun hx => absurd hx (xlt_no 40 hik2 (by first | assumption | decide)))
      refine xR_st K pq_X10_pass 6 (pc' := 56) (L' := [some (.ref 0), some (.int (nI i2))]) (S' := [.int 999, .int f_step, .int f_step, .ref 0]) (C' := mcX10_pass f_there f_marked f_trains f_step a_size a_age_2) rfl trivial ?_
      refine xR_i2 (enc := meX10_pass f_there f_marked f_trains f_step a_size a_age) (q1 := 59) (q2 := 63) K pq_X10_pass rfl rfl rfl rfl (fun h3 => ?_) (fun h3 => ?_)
      · refine xR_st K pq_X10_pass 4 (pc' := 68) (L' := [some (.ref 0), some (.int (nI i2))]) (S' := []) (C' := mcX10_pass f_there f_marked f_trains (f_step + 1) a_size a_age_2) rfl ⟨trivial, trivial⟩ ?_
        exact xR_retv K pq_X10_pass rfl
      · refine xR_st K pq_X10_pass 3 (pc' := 68) (L' := [some (.ref 0), some (.int (nI i2))]) (S' := []) (C' := mcX10_pass f_there f_marked f_trains (f_step + 0) a_size a_age_2) rfl ⟨trivial, trivial⟩ ?_
        exact xR_retv K pq_X10_pass rfl
    | succ k2 ih =>
      intro i2 a_age_2 hik2
      rw [mX10_pass_2.eq_2]
      refine xR_st K pq_X10_pass 2 (pc' := 5) (L' := [some (.ref 0), some (.int (nI i2))]) (S' := [.int 40, .int (nI i2)]) (C' := mcX10_pass f_there f_marked f_trains f_step a_size a_age_2) rfl trivial ?_
      refine xR_if2 K pq_X10_pass rfl ⟨rfl, rfl⟩ (fun hx => absurd (xlt_yes 40 hik2 (by first | assumption | decide)) hx) (fun _ => ?_)
      refine xR_st K pq_X10_pass 4 (pc' := 14) (L' := [some (.ref 0), some (.int (nI i2))]) (S' := [.int (a_size (nI i2).toNatClampNeg)]) (C' := mcX10_pass f_there f_marked f_trains f_step a_size a_age_2) rfl ⟨xin_nat rfl (by omega) (by first | assumption | decide), trivial⟩ ?_
      refine xR_i0 (enc := meX10_pass f_there f_marked f_trains f_step a_size a_age) (q1 := 17) (q2 := 38) K pq_X10_pass rfl rfl rfl rfl (fun h1 => ?_) (fun h1 => ?_)
      · refine xR_st K pq_X10_pass 5 (pc' := 25) (L' := [some (.ref 0), some (.int (nI i2))]) (S' := [.int 99, .int (a_age_2 (nI i2).toNatClampNeg)]) (C' := mcX10_pass f_there f_marked f_trains f_step a_size a_age_2) rfl ⟨xin_nat rfl (by omega) (by first | assumption | decide), trivial⟩ ?_
        refine xR_i2 (enc := meX10_pass f_there f_marked f_trains f_step a_size a_age) (q1 := 28) (q2 := 38) K pq_X10_pass rfl rfl rfl rfl (fun h2 => ?_) (fun h2 => ?_)
        · refine xR_st K pq_X10_pass 10 (pc' := 2) (L' := [some (.ref 0), some (.int ((nI i2) + 1))]) (S' := []) (C' := mcX10_pass f_there f_marked f_trains f_step a_size (upd a_age_2 (nI i2).toNatClampNeg ((a_age_2 (nI i2).toNatClampNeg) + 1))) rfl ⟨xin_nat rfl (by omega) (by first | assumption | decide), xin_nat rfl (by omega) (by first | assumption | decide), trivial⟩ ?_
          exact xR_less2 (ih (i2 + 1) _ (by omega)) ⟨rfl, xcnt i2, trivial⟩
        · refine xR_st K pq_X10_pass 2 (pc' := 2) (L' := [some (.ref 0), some (.int ((nI i2) + 1))]) (S' := []) (C' := mcX10_pass f_there f_marked f_trains f_step a_size a_age_2) rfl trivial ?_
          exact xR_less2 (ih (i2 + 1) _ (by omega)) ⟨rfl, xcnt i2, trivial⟩
      · refine xR_st K pq_X10_pass 2 (pc' := 2) (L' := [some (.ref 0), some (.int ((nI i2) + 1))]) (S' := []) (C' := mcX10_pass f_there f_marked f_trains f_step a_size a_age_2) rfl trivial ?_
        exact xR_less2 (ih (i2 + 1) _ (by omega)) ⟨rfl, xcnt i2, trivial⟩
  refine xR_st K pq_X10_pass 2 (pc' := 2) (L' := [some (.ref 0), some (.int 0)]) (S' := []) (C' := mcX10_pass f_there f_marked f_trains f_step a_size a_age) rfl trivial ?_
  exact xR_less2 (J2 _ _ _ (by first | rfl | omega)) ⟨rfl, rfl, trivial⟩
def pg_X10_rooted : xPg := [(0, .lconst 0, .long 0), (1, .lstore_n 1, .null), (2, .iconst 0, .int 0), (3, .istore_n 3, .null), (4, .iload_n 3, .null), (5, .bipush 8, .int 8), (7, .if_icmp .ge 21, .retAddr 28), (10, .lload_n 1, .null), (11, .aload_n 0, .null), (12, .getfield 30, .retAddr 1006), (15, .iload_n 3, .null), (16, .iaload, .null), (17, .invokestatic 112, .null), (20, .lor, .null), (21, .lstore_n 1, .null), (22, .iinc 3 1, .int 1), (25, .goto (-21), .retAddr 4), (28, .lload_n 1, .null), (29, .lreturn, .null)]
theorem pq_X10_rooted : xPq RX10 cX10_rooted tb_X10 pg_X10_rooted := ⟨tab_X10, xPok_of (by decide +kernel)⟩
theorem cy_X10_rooted : xCy yX10_rooted cX10_rooted 4 (some .long) := ⟨xtb_in (i := 967) (by decide +kernel) rfl, xtb_in (i := 156) (by decide +kernel) rfl, by decide +kernel, by decide +kernel⟩
theorem si_X10_rooted : Cond.instanceMethod yX10_rooted ∈ xtb ∧ Cond.selects yX10_rooted.cls yX10_rooted yX10_rooted ∈ xtb := ⟨xtb_in (i := 965) (by decide +kernel) rfl, xtb_in (i := 966) (by decide +kernel) rfl⟩
theorem ar_X10_rooted : xar yX10_rooted 0 := by unfold xar; decide +kernel
def mcX10_rooted (f_there : Int64) (f_marked : Int64) (f_trains : Int32) (f_step : Int32) (a_roots : Nat → Int32) : xC := [(0, .inr (10, [.ref 1, .ref 2, .ref 3, .ref 4, .ref 5, .ref 6, .ref 7, .ref 8, .ref 9, .long f_there, .long f_marked, .int f_trains, .int f_step])), (7, .inl (0, 8, .inl a_roots))]
def meX10_rooted (f_there : Int64) (f_marked : Int64) (f_trains : Int32) (f_step : Int32) (a_roots : Nat → Int32) : Int64 → xRes := fun r => some (some (.long r), mcX10_rooted f_there f_marked f_trains f_step a_roots)
def mX10_rooted_4 (a_roots : Nat → Int32)  : Nat → Nat → Int64 → Int64
  | 0, i4, x1_4 => x1_4
  | k4 + 1, i4, x1_4 =>
    mX10_rooted_4 a_roots k4 (i4 + 1) (x1_4 ||| (mX11_bit (a_roots (nI i4).toNatClampNeg)))
def mX10_rooted (a_roots : Nat → Int32) : Int64 :=
  mX10_rooted_4 a_roots 8 0 (0 : Int64)
set_option maxRecDepth 100000 in
set_option maxHeartbeats 1500000 in
theorem kX10_rooted (l : Launch) (f_there : Int64) (f_marked : Int64) (f_trains : Int32) (f_step : Int32) (a_roots : Nat → Int32)  : xMet l 1 yX10_rooted cX10_rooted 4 (some .long) [.ref 0] (mcX10_rooted f_there f_marked f_trains f_step a_roots) (meX10_rooted f_there f_marked f_trains f_step a_roots (mX10_rooted a_roots)) := by
  refine xMet_of cy_X10_rooted [some (.ref 0), none, none, none] rfl (Nat.le_of_ble_eq_true rfl) (fun X K => ?_)
  have J4 : ∀ (k4 i4 : Nat) (x1_4 : Int64) (hik4 : i4 + k4 = 8), xR X (meX10_rooted f_there f_marked f_trains f_step a_roots (mX10_rooted_4 a_roots k4 i4 x1_4)) 4 [some (.ref 0), some (.long x1_4), none, some (.int (nI i4))] [] (mcX10_rooted f_there f_marked f_trains f_step a_roots) := by
    intro k4
    induction k4 with
    | zero =>
      intro i4 x1_4 hik4
      rw [mX10_rooted_4.eq_1]
      refine xR_st K pq_X10_rooted 2 (pc' := 7) (L' := [some (.ref 0), some (.long x1_4), none, some (.int (nI i4))]) (S' := [.int 8, .int (nI i4)]) (C' := mcX10_rooted f_there f_marked f_trains f_step a_roots) rfl trivial ?_
      refine xR_if2 K pq_X10_rooted rfl ⟨rfl, rfl⟩ (fun _ => ?_) (fun hx => absurd hx (xlt_no 8 hik4 (by first | assumption | decide)))
      refine xR_st K pq_X10_rooted 1 (pc' := 29) (L' := [some (.ref 0), some (.long x1_4), none, some (.int (nI i4))]) (S' := [.long x1_4]) (C' := mcX10_rooted f_there f_marked f_trains f_step a_roots) rfl trivial ?_
      exact xR_retl K pq_X10_rooted rfl
    | succ k4 ih =>
      intro i4 x1_4 hik4
      rw [mX10_rooted_4.eq_2]
      refine xR_st K pq_X10_rooted 2 (pc' := 7) (L' := [some (.ref 0), some (.long x1_4), none, some (.int (nI i4))]) (S' := [.int 8, .int (nI i4)]) (C' := mcX10_rooted f_there f_marked f_trains f_step a_roots) rfl trivial ?_
      refine xR_if2 K pq_X10_rooted rfl ⟨rfl, rfl⟩ (fun hx => absurd (xlt_yes 8 hik4 (by first | assumption | decide)) hx) (fun _ => ?_)
      refine xR_st K pq_X10_rooted 5 (pc' := 17) (L' := [some (.ref 0), some (.long x1_4), none, some (.int (nI i4))]) (S' := [.int (a_roots (nI i4).toNatClampNeg), .long x1_4]) (C' := mcX10_rooted f_there f_marked f_trains f_step a_roots) rfl ⟨xin_nat rfl (by omega) (by first | assumption | decide), trivial⟩ ?_
      refine xR_callS3 K pq_X10_rooted rfl lk_X10_112 cy_X11_bit ss_X11_bit ar_X11_bit (rest := [.long x1_4]) (kX11_bit l (a_roots (nI i4).toNatClampNeg)) (by decide) (by decide) (S2 := [.long (mX11_bit (a_roots (nI i4).toNatClampNeg)), .long x1_4]) (C2 := mcX10_rooted f_there f_marked f_trains f_step a_roots) id [] rfl rfl (Nat.le_of_ble_eq_true rfl) rfl (by decide) rfl rfl rfl ?_
      refine xR_st K pq_X10_rooted 4 (pc' := 4) (L' := [some (.ref 0), some (.long (x1_4 ||| (mX11_bit (a_roots (nI i4).toNatClampNeg)))), none, some (.int ((nI i4) + 1))]) (S' := []) (C' := mcX10_rooted f_there f_marked f_trains f_step a_roots) rfl trivial ?_
      exact xR_less2 (ih (i4 + 1) _ (by omega)) ⟨rfl, rfl, xcnt i4, trivial⟩
  refine xR_st K pq_X10_rooted 4 (pc' := 4) (L' := [some (.ref 0), some (.long 0), none, some (.int 0)]) (S' := []) (C' := mcX10_rooted f_there f_marked f_trains f_step a_roots) rfl trivial ?_
  exact xR_less2 (J4 _ _ _ (by first | rfl | omega)) ⟨rfl, rfl, rfl, trivial⟩
def pg_X10_reach : xPg := [(0, .lload_n 1, .null), (1, .lload_n 3, .null), (2, .land, .null), (3, .lstore 5, .null), (5, .lload 5, .null), (7, .lstore 7, .null), (9, .iconst 0, .int 0), (10, .istore 9, .null), (12, .iload 9, .null), (14, .bipush 40, .int 40), (16, .if_icmp .ge 63, .retAddr 79), (19, .lload 7, .null), (21, .lconst 0, .long 0), (22, .lcmp, .null), (23, .ifCond .eq 56, .retAddr 79), (26, .lload 7, .null), (28, .invokestatic 144, .null), (31, .istore 10, .null), (33, .lload 7, .null), (35, .lload 7, .null), (37, .lconst 1, .long 1), (38, .lsub, .null), (39, .land, .null), (40, .lstore 7, .null), (42, .aload_n 0, .null), (43, .iload 10, .null), (45, .invokevirtual 125, .null), (48, .lload_n 3, .null), (49, .land, .null), (50, .lload 5, .null), (52, .ldc2_w 116, .long (-1)), (55, .lxor, .null), (56, .land, .null), (57, .lstore 11, .null), (59, .lload 5, .null), (61, .lload 11, .null), (63, .lor, .null), (64, .lstore 5, .null), (66, .lload 7, .null), (68, .lload 11, .null), (70, .lor, .null), (71, .lstore 7, .null), (73, .iinc 9 1, .int 1), (76, .goto (-64), .retAddr 12), (79, .lload 5, .null), (81, .lreturn, .null)]
theorem pq_X10_reach : xPq RX10 cX10_reach tb_X10 pg_X10_reach := ⟨tab_X10, xPok_of (by decide +kernel)⟩
theorem cy_X10_reach : xCy yX10_reach cX10_reach 13 (some .long) := ⟨xtb_in (i := 971) (by decide +kernel) rfl, xtb_in (i := 156) (by decide +kernel) rfl, by decide +kernel, by decide +kernel⟩
theorem si_X10_reach : Cond.instanceMethod yX10_reach ∈ xtb ∧ Cond.selects yX10_reach.cls yX10_reach yX10_reach ∈ xtb := ⟨xtb_in (i := 969) (by decide +kernel) rfl, xtb_in (i := 970) (by decide +kernel) rfl⟩
theorem ar_X10_reach : xar yX10_reach 2 := by unfold xar; decide +kernel
def mcX10_reach (f_there : Int64) (f_marked : Int64) (f_trains : Int32) (f_step : Int32) (a_links : Nat → Int32) : xC := [(0, .inr (10, [.ref 1, .ref 2, .ref 3, .ref 4, .ref 5, .ref 6, .ref 7, .ref 8, .ref 9, .long f_there, .long f_marked, .int f_trains, .int f_step])), (6, .inl (0, 160, .inl a_links))]
def meX10_reach (f_there : Int64) (f_marked : Int64) (f_trains : Int32) (f_step : Int32) (a_links : Nat → Int32) : Int64 → xRes := fun r => some (some (.long r), mcX10_reach f_there f_marked f_trains f_step a_links)
def mX10_reach_12 (v_within : Int64) (a_links : Nat → Int32)  : Nat → Nat → Int64 → Int64 → Int64
  | 0, i12, x5_12, x7_12 => x5_12
  | k12 + 1, i12, x5_12, x7_12 =>
    if x7_12 = (0 : Int64) then
      x5_12
    else
      mX10_reach_12 v_within a_links k12 (i12 + 1) (x5_12 ||| (((mX10_linkedFrom (mX11_lowest x7_12) a_links) &&& v_within) &&& (x5_12 ^^^ (-1)))) ((x7_12 &&& (x7_12 - 1)) ||| (((mX10_linkedFrom (mX11_lowest x7_12) a_links) &&& v_within) &&& (x5_12 ^^^ (-1))))
def mX10_reach (v_first : Int64) (v_within : Int64) (a_links : Nat → Int32) : Int64 :=
  mX10_reach_12 v_within a_links 40 0 (v_first &&& v_within) (v_first &&& v_within)
set_option maxRecDepth 100000 in
set_option maxHeartbeats 1500000 in
theorem kX10_reach (l : Launch) (v_first : Int64) (v_within : Int64) (f_there : Int64) (f_marked : Int64) (f_trains : Int32) (f_step : Int32) (a_links : Nat → Int32)  : xMet l 2 yX10_reach cX10_reach 13 (some .long) [.ref 0, .long v_first, .long v_within] (mcX10_reach f_there f_marked f_trains f_step a_links) (meX10_reach f_there f_marked f_trains f_step a_links (mX10_reach v_first v_within a_links)) := by
  refine xMet_of cy_X10_reach [some (.ref 0), some (.long v_first), none, some (.long v_within), none, none, none, none, none, none, none, none, none] rfl (Nat.le_of_ble_eq_true rfl) (fun X K => ?_)
  have J12 : ∀ (k12 i12 : Nat) (x5_12 : Int64) (x7_12 : Int64) (hik12 : i12 + k12 = 40), xR X (meX10_reach f_there f_marked f_trains f_step a_links (mX10_reach_12 v_within a_links k12 i12 x5_12 x7_12)) 12 [some (.ref 0), none, none, some (.long v_within), none, some (.long x5_12), none, some (.long x7_12), none, some (.int (nI i12)), none, none, none] [] (mcX10_reach f_there f_marked f_trains f_step a_links) := by
    intro k12
    induction k12 with
    | zero =>
      intro i12 x5_12 x7_12 hik12
      rw [mX10_reach_12.eq_1]
      refine xR_st K pq_X10_reach 2 (pc' := 16) (L' := [some (.ref 0), none, none, some (.long v_within), none, some (.long x5_12), none, some (.long x7_12), none, some (.int (nI i12)), none, none, none]) (S' := [.int 40, .int (nI i12)]) (C' := mcX10_reach f_there f_marked f_trains f_step a_links) rfl trivial ?_
      refine xR_if2 K pq_X10_reach rfl ⟨rfl, rfl⟩ (fun _ => ?_) (fun hx => absurd hx (xlt_no 40 hik12 (by first | assumption | decide)))
      refine xR_st K pq_X10_reach 1 (pc' := 81) (L' := [some (.ref 0), none, none, some (.long v_within), none, some (.long x5_12), none, some (.long x7_12), none, some (.int (nI i12)), none, none, none]) (S' := [.long x5_12]) (C' := mcX10_reach f_there f_marked f_trains f_step a_links) rfl trivial ?_
      exact xR_retl K pq_X10_reach rfl
    | succ k12 ih =>
      intro i12 x5_12 x7_12 hik12
      rw [mX10_reach_12.eq_2]
      refine xR_st K pq_X10_reach 2 (pc' := 16) (L' := [some (.ref 0), none, none, some (.long v_within), none, some (.long x5_12), none, some (.long x7_12), none, some (.int (nI i12)), none, none, none]) (S' := [.int 40, .int (nI i12)]) (C' := mcX10_reach f_there f_marked f_trains f_step a_links) rfl trivial ?_
      refine xR_if2 K pq_X10_reach rfl ⟨rfl, rfl⟩ (fun hx => absurd (xlt_yes 40 hik12 (by first | assumption | decide)) hx) (fun _ => ?_)
      refine xR_st K pq_X10_reach 3 (pc' := 23) (L' := [some (.ref 0), none, none, some (.long v_within), none, some (.long x5_12), none, some (.long x7_12), none, some (.int (nI i12)), none, none, none]) (S' := [.int (lg_cmp x7_12 (0 : Int64))]) (C' := mcX10_reach f_there f_marked f_trains f_step a_links) rfl trivial ?_
      refine xR_il (enc := meX10_reach f_there f_marked f_trains f_step a_links) (q1 := 79) (q2 := 26) K pq_X10_reach rfl rfl rfl rfl (fun h1 => ?_) (fun h1 => ?_)
      · refine xR_st K pq_X10_reach 1 (pc' := 81) (L' := [some (.ref 0), none, none, some (.long v_within), none, some (.long x5_12), none, some (.long x7_12), none, some (.int (nI i12)), none, none, none]) (S' := [.long x5_12]) (C' := mcX10_reach f_there f_marked f_trains f_step a_links) rfl trivial ?_
        exact xR_retl K pq_X10_reach rfl
      · refine xR_st K pq_X10_reach 1 (pc' := 28) (L' := [some (.ref 0), none, none, some (.long v_within), none, some (.long x5_12), none, some (.long x7_12), none, some (.int (nI i12)), none, none, none]) (S' := [.long x7_12]) (C' := mcX10_reach f_there f_marked f_trains f_step a_links) rfl trivial ?_
        refine xR_callS3 K pq_X10_reach rfl lk_X10_144 cy_X11_lowest ss_X11_lowest ar_X11_lowest (rest := []) (kX11_lowest l x7_12) (by decide) (by decide) (S2 := [.int (mX11_lowest x7_12)]) (C2 := mcX10_reach f_there f_marked f_trains f_step a_links) id [] rfl rfl (Nat.le_of_ble_eq_true rfl) rfl (by decide) rfl rfl rfl ?_
        refine xR_st K pq_X10_reach 9 (pc' := 45) (L' := [some (.ref 0), none, none, some (.long v_within), none, some (.long x5_12), none, some (.long (x7_12 &&& (x7_12 - 1))), none, some (.int (nI i12)), some (.int (mX11_lowest x7_12)), none, none]) (S' := [.int (mX11_lowest x7_12), .ref 0]) (C' := mcX10_reach f_there f_marked f_trains f_step a_links) rfl trivial ?_
        refine xR_callV3 K pq_X10_reach rfl lk_X10_125 cy_X10_linkedFrom si_X10_linkedFrom ar_X10_linkedFrom (rest := []) (kX10_linkedFrom l (mX11_lowest x7_12) f_there f_marked f_trains f_step a_links) (by decide) (by decide) rfl rfl (S2 := [.long (mX10_linkedFrom (mX11_lowest x7_12) a_links)]) (C2 := mcX10_reach f_there f_marked f_trains f_step a_links) id [0, 1] rfl rfl (Nat.le_of_ble_eq_true rfl) rfl (by decide) rfl rfl rfl ?_
        refine xR_st K pq_X10_reach 17 (pc' := 12) (L' := [some (.ref 0), none, none, some (.long v_within), none, some (.long (x5_12 ||| (((mX10_linkedFrom (mX11_lowest x7_12) a_links) &&& v_within) &&& (x5_12 ^^^ (-1))))), none, some (.long ((x7_12 &&& (x7_12 - 1)) ||| (((mX10_linkedFrom (mX11_lowest x7_12) a_links) &&& v_within) &&& (x5_12 ^^^ (-1))))), none, some (.int ((nI i12) + 1)), some (.int (mX11_lowest x7_12)), some (.long (((mX10_linkedFrom (mX11_lowest x7_12) a_links) &&& v_within) &&& (x5_12 ^^^ (-1)))), none]) (S' := []) (C' := mcX10_reach f_there f_marked f_trains f_step a_links) rfl trivial ?_
        exact xR_less2 (ih (i12 + 1) _ _ (by omega)) ⟨rfl, rfl, rfl, rfl, xcnt i12, trivial⟩
  refine xR_st K pq_X10_reach 8 (pc' := 12) (L' := [some (.ref 0), some (.long v_first), none, some (.long v_within), none, some (.long (v_first &&& v_within)), none, some (.long (v_first &&& v_within)), none, some (.int 0), none, none, none]) (S' := []) (C' := mcX10_reach f_there f_marked f_trains f_step a_links) rfl trivial ?_
  exact xR_less2 (J12 _ _ _ _ (by first | rfl | omega)) ⟨rfl, rfl, rfl, rfl, rfl, trivial⟩
def pg_X10_live : xPg := [(0, .aload_n 0, .null), (1, .aload_n 0, .null), (2, .invokevirtual 136, .null), (5, .aload_n 0, .null), (6, .getfield 49, .retAddr 1009), (9, .invokevirtual 140, .null), (12, .lreturn, .null)]
theorem pq_X10_live : xPq RX10 cX10_live tb_X10 pg_X10_live := ⟨tab_X10, xPok_of (by decide +kernel)⟩
theorem cy_X10_live : xCy yX10_live cX10_live 1 (some .long) := ⟨xtb_in (i := 963) (by decide +kernel) rfl, xtb_in (i := 156) (by decide +kernel) rfl, by decide +kernel, by decide +kernel⟩
theorem si_X10_live : Cond.instanceMethod yX10_live ∈ xtb ∧ Cond.selects yX10_live.cls yX10_live yX10_live ∈ xtb := ⟨xtb_in (i := 961) (by decide +kernel) rfl, xtb_in (i := 962) (by decide +kernel) rfl⟩
theorem ar_X10_live : xar yX10_live 0 := by unfold xar; decide +kernel
def mcX10_live (f_there : Int64) (f_marked : Int64) (f_trains : Int32) (f_step : Int32) (a_links : Nat → Int32) (a_roots : Nat → Int32) : xC := [(0, .inr (10, [.ref 1, .ref 2, .ref 3, .ref 4, .ref 5, .ref 6, .ref 7, .ref 8, .ref 9, .long f_there, .long f_marked, .int f_trains, .int f_step])), (6, .inl (0, 160, .inl a_links)), (7, .inl (0, 8, .inl a_roots))]
def meX10_live (f_there : Int64) (f_marked : Int64) (f_trains : Int32) (f_step : Int32) (a_links : Nat → Int32) (a_roots : Nat → Int32) : Int64 → xRes := fun r => some (some (.long r), mcX10_live f_there f_marked f_trains f_step a_links a_roots)
def mX10_live (f_there : Int64) (a_links : Nat → Int32) (a_roots : Nat → Int32) : Int64 :=
  mX10_reach (mX10_rooted a_roots) f_there a_links
set_option maxRecDepth 100000 in
set_option maxHeartbeats 1500000 in
theorem kX10_live (l : Launch) (f_there : Int64) (f_marked : Int64) (f_trains : Int32) (f_step : Int32) (a_links : Nat → Int32) (a_roots : Nat → Int32)  : xMet l 3 yX10_live cX10_live 1 (some .long) [.ref 0] (mcX10_live f_there f_marked f_trains f_step a_links a_roots) (meX10_live f_there f_marked f_trains f_step a_links a_roots (mX10_live f_there a_links a_roots)) := by
  refine xMet_of cy_X10_live [some (.ref 0)] rfl (Nat.le_of_ble_eq_true rfl) (fun X K => ?_)
  refine xR_st K pq_X10_live 2 (pc' := 2) (L' := [some (.ref 0)]) (S' := [.ref 0, .ref 0]) (C' := mcX10_live f_there f_marked f_trains f_step a_links a_roots) rfl trivial ?_
  refine xR_callV3 K pq_X10_live rfl lk_X10_136 cy_X10_rooted si_X10_rooted ar_X10_rooted (rest := [.ref 0]) (kX10_rooted l f_there f_marked f_trains f_step a_roots) (by decide) (by decide) rfl rfl (S2 := [.long (mX10_rooted a_roots), .ref 0]) (C2 := mcX10_live f_there f_marked f_trains f_step a_links a_roots) id [0, 2] rfl rfl (Nat.le_of_ble_eq_true rfl) rfl (by decide) rfl rfl rfl ?_
  refine xR_st K pq_X10_live 2 (pc' := 9) (L' := [some (.ref 0)]) (S' := [.long f_there, .long (mX10_rooted a_roots), .ref 0]) (C' := mcX10_live f_there f_marked f_trains f_step a_links a_roots) rfl trivial ?_
  refine xR_callV3 K pq_X10_live rfl lk_X10_140 cy_X10_reach si_X10_reach ar_X10_reach (rest := []) (kX10_reach l (mX10_rooted a_roots) f_there f_there f_marked f_trains f_step a_links) (by decide) (by decide) rfl rfl (S2 := [.long (mX10_reach (mX10_rooted a_roots) f_there a_links)]) (C2 := mcX10_live f_there f_marked f_trains f_step a_links a_roots) id [0, 1] rfl rfl (Nat.le_of_ble_eq_true rfl) rfl (by decide) rfl rfl rfl ?_
  exact xR_retl K pq_X10_live rfl
def pg_X10_riders : xPg := [(0, .lconst 0, .long 0), (1, .lstore_n 2, .null), (2, .iconst 0, .int 0), (3, .istore 4, .null), (5, .iload 4, .null), (7, .bipush 40, .int 40), (9, .if_icmp .ge 38, .retAddr 47), (12, .aload_n 0, .null), (13, .getfield 9, .retAddr 1000), (16, .iload 4, .null), (18, .iaload, .null), (19, .ifCond .le 22, .retAddr 41), (22, .aload_n 0, .null), (23, .getfield 18, .retAddr 1002), (26, .iload 4, .null), (28, .iaload, .null), (29, .iload_n 1, .null), (30, .if_icmp .ne 11, .retAddr 41), (33, .lload_n 2, .null), (34, .iload 4, .null), (36, .invokestatic 112, .null), (39, .lor, .null), (40, .lstore_n 2, .null), (41, .iinc 4 1, .int 1), (44, .goto (-39), .retAddr 5), (47, .lload_n 2, .null), (48, .lreturn, .null)]
theorem pq_X10_riders : xPq RX10 cX10_riders tb_X10 pg_X10_riders := ⟨tab_X10, xPok_of (by decide +kernel)⟩
theorem cy_X10_riders : xCy yX10_riders cX10_riders 5 (some .long) := ⟨xtb_in (i := 1069) (by decide +kernel) rfl, xtb_in (i := 156) (by decide +kernel) rfl, by decide +kernel, by decide +kernel⟩
theorem si_X10_riders : Cond.instanceMethod yX10_riders ∈ xtb ∧ Cond.selects yX10_riders.cls yX10_riders yX10_riders ∈ xtb := ⟨xtb_in (i := 1067) (by decide +kernel) rfl, xtb_in (i := 1068) (by decide +kernel) rfl⟩
theorem ar_X10_riders : xar yX10_riders 1 := by unfold xar; decide +kernel
def mcX10_riders (f_there : Int64) (f_marked : Int64) (f_trains : Int32) (f_step : Int32) (a_size : Nat → Int32) (a_train : Nat → Int32) : xC := [(0, .inr (10, [.ref 1, .ref 2, .ref 3, .ref 4, .ref 5, .ref 6, .ref 7, .ref 8, .ref 9, .long f_there, .long f_marked, .int f_trains, .int f_step])), (1, .inl (0, 40, .inl a_size)), (3, .inl (0, 40, .inl a_train))]
def meX10_riders (f_there : Int64) (f_marked : Int64) (f_trains : Int32) (f_step : Int32) (a_size : Nat → Int32) (a_train : Nat → Int32) : Int64 → xRes := fun r => some (some (.long r), mcX10_riders f_there f_marked f_trains f_step a_size a_train)
def mX10_riders_5 (v_inTrain : Int32) (a_size : Nat → Int32) (a_train : Nat → Int32)  : Nat → Nat → Int64 → Int64
  | 0, i5, x2_5 => x2_5
  | k5 + 1, i5, x2_5 =>
    if 0 < (a_size (nI i5).toNatClampNeg) then
      if (a_train (nI i5).toNatClampNeg) = v_inTrain then
        mX10_riders_5 v_inTrain a_size a_train k5 (i5 + 1) (x2_5 ||| (mX11_bit (nI i5)))
      else
        mX10_riders_5 v_inTrain a_size a_train k5 (i5 + 1) x2_5
    else
      mX10_riders_5 v_inTrain a_size a_train k5 (i5 + 1) x2_5
def mX10_riders (v_inTrain : Int32) (a_size : Nat → Int32) (a_train : Nat → Int32) : Int64 :=
  mX10_riders_5 v_inTrain a_size a_train 40 0 (0 : Int64)
set_option maxRecDepth 100000 in
set_option maxHeartbeats 1500000 in
theorem kX10_riders (l : Launch) (v_inTrain : Int32) (f_there : Int64) (f_marked : Int64) (f_trains : Int32) (f_step : Int32) (a_size : Nat → Int32) (a_train : Nat → Int32)  : xMet l 1 yX10_riders cX10_riders 5 (some .long) [.ref 0, .int v_inTrain] (mcX10_riders f_there f_marked f_trains f_step a_size a_train) (meX10_riders f_there f_marked f_trains f_step a_size a_train (mX10_riders v_inTrain a_size a_train)) := by
  refine xMet_of cy_X10_riders [some (.ref 0), some (.int v_inTrain), none, none, none] rfl (Nat.le_of_ble_eq_true rfl) (fun X K => ?_)
  have J5 : ∀ (k5 i5 : Nat) (x2_5 : Int64) (hik5 : i5 + k5 = 40), xR X (meX10_riders f_there f_marked f_trains f_step a_size a_train (mX10_riders_5 v_inTrain a_size a_train k5 i5 x2_5)) 5 [some (.ref 0), some (.int v_inTrain), some (.long x2_5), none, some (.int (nI i5))] [] (mcX10_riders f_there f_marked f_trains f_step a_size a_train) := by
    intro k5
    induction k5 with
    | zero =>
      intro i5 x2_5 hik5
      rw [mX10_riders_5.eq_1]
      refine xR_st K pq_X10_riders 2 (pc' := 9) (L' := [some (.ref 0), some (.int v_inTrain), some (.long x2_5), none, some (.int (nI i5))]) (S' := [.int 40, .int (nI i5)]) (C' := mcX10_riders f_there f_marked f_trains f_step a_size a_train) rfl trivial ?_
      refine xR_if2 K pq_X10_riders rfl ⟨rfl, rfl⟩ (fun _ => ?_) (fun hx => absurd hx (xlt_no 40 hik5 (by first | assumption | decide)))
      refine xR_st K pq_X10_riders 1 (pc' := 48) (L' := [some (.ref 0), some (.int v_inTrain), some (.long x2_5), none, some (.int (nI i5))]) (S' := [.long x2_5]) (C' := mcX10_riders f_there f_marked f_trains f_step a_size a_train) rfl trivial ?_
      exact xR_retl K pq_X10_riders rfl
    | succ k5 ih =>
      intro i5 x2_5 hik5
      rw [mX10_riders_5.eq_2]
      refine xR_st K pq_X10_riders 2 (pc' := 9) (L' := [some (.ref 0), some (.int v_inTrain), some (.long x2_5), none, some (.int (nI i5))]) (S' := [.int 40, .int (nI i5)]) (C' := mcX10_riders f_there f_marked f_trains f_step a_size a_train) rfl trivial ?_
      refine xR_if2 K pq_X10_riders rfl ⟨rfl, rfl⟩ (fun hx => absurd (xlt_yes 40 hik5 (by first | assumption | decide)) hx) (fun _ => ?_)
      refine xR_st K pq_X10_riders 4 (pc' := 19) (L' := [some (.ref 0), some (.int v_inTrain), some (.long x2_5), none, some (.int (nI i5))]) (S' := [.int (a_size (nI i5).toNatClampNeg)]) (C' := mcX10_riders f_there f_marked f_trains f_step a_size a_train) rfl ⟨xin_nat rfl (by omega) (by first | assumption | decide), trivial⟩ ?_
      refine xR_i0 (enc := meX10_riders f_there f_marked f_trains f_step a_size a_train) (q1 := 22) (q2 := 41) K pq_X10_riders rfl rfl rfl rfl (fun h1 => ?_) (fun h1 => ?_)
      · refine xR_st K pq_X10_riders 5 (pc' := 30) (L' := [some (.ref 0), some (.int v_inTrain), some (.long x2_5), none, some (.int (nI i5))]) (S' := [.int v_inTrain, .int (a_train (nI i5).toNatClampNeg)]) (C' := mcX10_riders f_there f_marked f_trains f_step a_size a_train) rfl ⟨xin_nat rfl (by omega) (by first | assumption | decide), trivial⟩ ?_
        refine xR_i2 (enc := meX10_riders f_there f_marked f_trains f_step a_size a_train) (q1 := 33) (q2 := 41) K pq_X10_riders rfl rfl rfl rfl (fun h2 => ?_) (fun h2 => ?_)
        · refine xR_st K pq_X10_riders 2 (pc' := 36) (L' := [some (.ref 0), some (.int v_inTrain), some (.long x2_5), none, some (.int (nI i5))]) (S' := [.int (nI i5), .long x2_5]) (C' := mcX10_riders f_there f_marked f_trains f_step a_size a_train) rfl trivial ?_
          refine xR_callS3 K pq_X10_riders rfl lk_X10_112 cy_X11_bit ss_X11_bit ar_X11_bit (rest := [.long x2_5]) (kX11_bit l (nI i5)) (by decide) (by decide) (S2 := [.long (mX11_bit (nI i5)), .long x2_5]) (C2 := mcX10_riders f_there f_marked f_trains f_step a_size a_train) id [] rfl rfl (Nat.le_of_ble_eq_true rfl) rfl (by decide) rfl rfl rfl ?_
          refine xR_st K pq_X10_riders 4 (pc' := 5) (L' := [some (.ref 0), some (.int v_inTrain), some (.long (x2_5 ||| (mX11_bit (nI i5)))), none, some (.int ((nI i5) + 1))]) (S' := []) (C' := mcX10_riders f_there f_marked f_trains f_step a_size a_train) rfl trivial ?_
          exact xR_less2 (ih (i5 + 1) _ (by omega)) ⟨rfl, rfl, rfl, xcnt i5, trivial⟩
        · refine xR_st K pq_X10_riders 2 (pc' := 5) (L' := [some (.ref 0), some (.int v_inTrain), some (.long x2_5), none, some (.int ((nI i5) + 1))]) (S' := []) (C' := mcX10_riders f_there f_marked f_trains f_step a_size a_train) rfl trivial ?_
          exact xR_less2 (ih (i5 + 1) _ (by omega)) ⟨rfl, rfl, rfl, xcnt i5, trivial⟩
      · refine xR_st K pq_X10_riders 2 (pc' := 5) (L' := [some (.ref 0), some (.int v_inTrain), some (.long x2_5), none, some (.int ((nI i5) + 1))]) (S' := []) (C' := mcX10_riders f_there f_marked f_trains f_step a_size a_train) rfl trivial ?_
        exact xR_less2 (ih (i5 + 1) _ (by omega)) ⟨rfl, rfl, rfl, xcnt i5, trivial⟩
  refine xR_st K pq_X10_riders 4 (pc' := 5) (L' := [some (.ref 0), some (.int v_inTrain), some (.long 0), none, some (.int 0)]) (S' := []) (C' := mcX10_riders f_there f_marked f_trains f_step a_size a_train) rfl trivial ?_
  exact xR_less2 (J5 _ _ _ (by first | rfl | omega)) ⟨rfl, rfl, rfl, rfl, trivial⟩
def pg_X10_riders_ : xPg := [(0, .lconst 0, .long 0), (1, .lstore_n 3, .null), (2, .iconst 0, .int 0), (3, .istore 5, .null), (5, .iload 5, .null), (7, .bipush 40, .int 40), (9, .if_icmp .ge 49, .retAddr 58), (12, .aload_n 0, .null), (13, .getfield 9, .retAddr 1000), (16, .iload 5, .null), (18, .iaload, .null), (19, .ifCond .le 33, .retAddr 52), (22, .aload_n 0, .null), (23, .getfield 18, .retAddr 1002), (26, .iload 5, .null), (28, .iaload, .null), (29, .iload_n 1, .null), (30, .if_icmp .ne 22, .retAddr 52), (33, .aload_n 0, .null), (34, .getfield 21, .retAddr 1003), (37, .iload 5, .null), (39, .iaload, .null), (40, .iload_n 2, .null), (41, .if_icmp .ne 11, .retAddr 52), (44, .lload_n 3, .null), (45, .iload 5, .null), (47, .invokestatic 112, .null), (50, .lor, .null), (51, .lstore_n 3, .null), (52, .iinc 5 1, .int 1), (55, .goto (-50), .retAddr 5), (58, .lload_n 3, .null), (59, .lreturn, .null)]
theorem pq_X10_riders_ : xPq RX10 cX10_riders_ tb_X10 pg_X10_riders_ := ⟨tab_X10, xPok_of (by decide +kernel)⟩
theorem cy_X10_riders_ : xCy yX10_riders_ cX10_riders_ 6 (some .long) := ⟨xtb_in (i := 1003) (by decide +kernel) rfl, xtb_in (i := 156) (by decide +kernel) rfl, by decide +kernel, by decide +kernel⟩
theorem si_X10_riders_ : Cond.instanceMethod yX10_riders_ ∈ xtb ∧ Cond.selects yX10_riders_.cls yX10_riders_ yX10_riders_ ∈ xtb := ⟨xtb_in (i := 1001) (by decide +kernel) rfl, xtb_in (i := 1002) (by decide +kernel) rfl⟩
theorem ar_X10_riders_ : xar yX10_riders_ 2 := by unfold xar; decide +kernel
def mcX10_riders_ (f_there : Int64) (f_marked : Int64) (f_trains : Int32) (f_step : Int32) (a_size : Nat → Int32) (a_train : Nat → Int32) (a_car : Nat → Int32) : xC := [(0, .inr (10, [.ref 1, .ref 2, .ref 3, .ref 4, .ref 5, .ref 6, .ref 7, .ref 8, .ref 9, .long f_there, .long f_marked, .int f_trains, .int f_step])), (1, .inl (0, 40, .inl a_size)), (3, .inl (0, 40, .inl a_train)), (4, .inl (0, 40, .inl a_car))]
def meX10_riders_ (f_there : Int64) (f_marked : Int64) (f_trains : Int32) (f_step : Int32) (a_size : Nat → Int32) (a_train : Nat → Int32) (a_car : Nat → Int32) : Int64 → xRes := fun r => some (some (.long r), mcX10_riders_ f_there f_marked f_trains f_step a_size a_train a_car)
def mX10_riders__5 (v_inTrain : Int32) (v_inCar : Int32) (a_size : Nat → Int32) (a_train : Nat → Int32) (a_car : Nat → Int32)  : Nat → Nat → Int64 → Int64
  | 0, i5, x3_5 => x3_5
  | k5 + 1, i5, x3_5 =>
    if 0 < (a_size (nI i5).toNatClampNeg) then
      if (a_train (nI i5).toNatClampNeg) = v_inTrain then
        if (a_car (nI i5).toNatClampNeg) = v_inCar then
          mX10_riders__5 v_inTrain v_inCar a_size a_train a_car k5 (i5 + 1) (x3_5 ||| (mX11_bit (nI i5)))
        else
          mX10_riders__5 v_inTrain v_inCar a_size a_train a_car k5 (i5 + 1) x3_5
      else
        mX10_riders__5 v_inTrain v_inCar a_size a_train a_car k5 (i5 + 1) x3_5
    else
      mX10_riders__5 v_inTrain v_inCar a_size a_train a_car k5 (i5 + 1) x3_5
def mX10_riders_ (v_inTrain : Int32) (v_inCar : Int32) (a_size : Nat → Int32) (a_train : Nat → Int32) (a_car : Nat → Int32) : Int64 :=
  mX10_riders__5 v_inTrain v_inCar a_size a_train a_car 40 0 (0 : Int64)
set_option maxRecDepth 100000 in
set_option maxHeartbeats 1500000 in
theorem kX10_riders_ (l : Launch) (v_inTrain : Int32) (v_inCar : Int32) (f_there : Int64) (f_marked : Int64) (f_trains : Int32) (f_step : Int32) (a_size : Nat → Int32) (a_train : Nat → Int32) (a_car : Nat → Int32)  : xMet l 1 yX10_riders_ cX10_riders_ 6 (some .long) [.ref 0, .int v_inTrain, .int v_inCar] (mcX10_riders_ f_there f_marked f_trains f_step a_size a_train a_car) (meX10_riders_ f_there f_marked f_trains f_step a_size a_train a_car (mX10_riders_ v_inTrain v_inCar a_size a_train a_car)) := by
  refine xMet_of cy_X10_riders_ [some (.ref 0), some (.int v_inTrain), some (.int v_inCar), none, none, none] rfl (Nat.le_of_ble_eq_true rfl) (fun X K => ?_)
  have J5 : ∀ (k5 i5 : Nat) (x3_5 : Int64) (hik5 : i5 + k5 = 40), xR X (meX10_riders_ f_there f_marked f_trains f_step a_size a_train a_car (mX10_riders__5 v_inTrain v_inCar a_size a_train a_car k5 i5 x3_5)) 5 [some (.ref 0), some (.int v_inTrain), some (.int v_inCar), some (.long x3_5), none, some (.int (nI i5))] [] (mcX10_riders_ f_there f_marked f_trains f_step a_size a_train a_car) := by
    intro k5
    induction k5 with
    | zero =>
      intro i5 x3_5 hik5
      rw [mX10_riders__5.eq_1]
      refine xR_st K pq_X10_riders_ 2 (pc' := 9) (L' := [some (.ref 0), some (.int v_inTrain), some (.int v_inCar), some (.long x3_5), none, some (.int (nI i5))]) (S' := [.int 40, .int (nI i5)]) (C' := mcX10_riders_ f_there f_marked f_trains f_step a_size a_train a_car) rfl trivial ?_
      refine xR_if2 K pq_X10_riders_ rfl ⟨rfl, rfl⟩ (fun _ => ?_) (fun hx => absurd hx (xlt_no 40 hik5 (by first | assumption | decide)))
      refine xR_st K pq_X10_riders_ 1 (pc' := 59) (L' := [some (.ref 0), some (.int v_inTrain), some (.int v_inCar), some (.long x3_5), none, some (.int (nI i5))]) (S' := [.long x3_5]) (C' := mcX10_riders_ f_there f_marked f_trains f_step a_size a_train a_car) rfl trivial ?_
      exact xR_retl K pq_X10_riders_ rfl
    | succ k5 ih =>
      intro i5 x3_5 hik5
      rw [mX10_riders__5.eq_2]
      refine xR_st K pq_X10_riders_ 2 (pc' := 9) (L' := [some (.ref 0), some (.int v_inTrain), some (.int v_inCar), some (.long x3_5), none, some (.int (nI i5))]) (S' := [.int 40, .int (nI i5)]) (C' := mcX10_riders_ f_there f_marked f_trains f_step a_size a_train a_car) rfl trivial ?_
      refine xR_if2 K pq_X10_riders_ rfl ⟨rfl, rfl⟩ (fun hx => absurd (xlt_yes 40 hik5 (by first | assumption | decide)) hx) (fun _ => ?_)
      refine xR_st K pq_X10_riders_ 4 (pc' := 19) (L' := [some (.ref 0), some (.int v_inTrain), some (.int v_inCar), some (.long x3_5), none, some (.int (nI i5))]) (S' := [.int (a_size (nI i5).toNatClampNeg)]) (C' := mcX10_riders_ f_there f_marked f_trains f_step a_size a_train a_car) rfl ⟨xin_nat rfl (by omega) (by first | assumption | decide), trivial⟩ ?_
      refine xR_i0 (enc := meX10_riders_ f_there f_marked f_trains f_step a_size a_train a_car) (q1 := 22) (q2 := 52) K pq_X10_riders_ rfl rfl rfl rfl (fun h1 => ?_) (fun h1 => ?_)
      · refine xR_st K pq_X10_riders_ 5 (pc' := 30) (L' := [some (.ref 0), some (.int v_inTrain), some (.int v_inCar), some (.long x3_5), none, some (.int (nI i5))]) (S' := [.int v_inTrain, .int (a_train (nI i5).toNatClampNeg)]) (C' := mcX10_riders_ f_there f_marked f_trains f_step a_size a_train a_car) rfl ⟨xin_nat rfl (by omega) (by first | assumption | decide), trivial⟩ ?_
        refine xR_i2 (enc := meX10_riders_ f_there f_marked f_trains f_step a_size a_train a_car) (q1 := 33) (q2 := 52) K pq_X10_riders_ rfl rfl rfl rfl (fun h2 => ?_) (fun h2 => ?_)
        · refine xR_st K pq_X10_riders_ 5 (pc' := 41) (L' := [some (.ref 0), some (.int v_inTrain), some (.int v_inCar), some (.long x3_5), none, some (.int (nI i5))]) (S' := [.int v_inCar, .int (a_car (nI i5).toNatClampNeg)]) (C' := mcX10_riders_ f_there f_marked f_trains f_step a_size a_train a_car) rfl ⟨xin_nat rfl (by omega) (by first | assumption | decide), trivial⟩ ?_
          refine xR_i2 (enc := meX10_riders_ f_there f_marked f_trains f_step a_size a_train a_car) (q1 := 44) (q2 := 52) K pq_X10_riders_ rfl rfl rfl rfl (fun h3 => ?_) (fun h3 => ?_)
          · refine xR_st K pq_X10_riders_ 2 (pc' := 47) (L' := [some (.ref 0), some (.int v_inTrain), some (.int v_inCar), some (.long x3_5), none, some (.int (nI i5))]) (S' := [.int (nI i5), .long x3_5]) (C' := mcX10_riders_ f_there f_marked f_trains f_step a_size a_train a_car) rfl trivial ?_
            refine xR_callS3 K pq_X10_riders_ rfl lk_X10_112 cy_X11_bit ss_X11_bit ar_X11_bit (rest := [.long x3_5]) (kX11_bit l (nI i5)) (by decide) (by decide) (S2 := [.long (mX11_bit (nI i5)), .long x3_5]) (C2 := mcX10_riders_ f_there f_marked f_trains f_step a_size a_train a_car) id [] rfl rfl (Nat.le_of_ble_eq_true rfl) rfl (by decide) rfl rfl rfl ?_
            refine xR_st K pq_X10_riders_ 4 (pc' := 5) (L' := [some (.ref 0), some (.int v_inTrain), some (.int v_inCar), some (.long (x3_5 ||| (mX11_bit (nI i5)))), none, some (.int ((nI i5) + 1))]) (S' := []) (C' := mcX10_riders_ f_there f_marked f_trains f_step a_size a_train a_car) rfl trivial ?_
            exact xR_less2 (ih (i5 + 1) _ (by omega)) ⟨rfl, rfl, rfl, rfl, xcnt i5, trivial⟩
          · refine xR_st K pq_X10_riders_ 2 (pc' := 5) (L' := [some (.ref 0), some (.int v_inTrain), some (.int v_inCar), some (.long x3_5), none, some (.int ((nI i5) + 1))]) (S' := []) (C' := mcX10_riders_ f_there f_marked f_trains f_step a_size a_train a_car) rfl trivial ?_
            exact xR_less2 (ih (i5 + 1) _ (by omega)) ⟨rfl, rfl, rfl, rfl, xcnt i5, trivial⟩
        · refine xR_st K pq_X10_riders_ 2 (pc' := 5) (L' := [some (.ref 0), some (.int v_inTrain), some (.int v_inCar), some (.long x3_5), none, some (.int ((nI i5) + 1))]) (S' := []) (C' := mcX10_riders_ f_there f_marked f_trains f_step a_size a_train a_car) rfl trivial ?_
          exact xR_less2 (ih (i5 + 1) _ (by omega)) ⟨rfl, rfl, rfl, rfl, xcnt i5, trivial⟩
      · refine xR_st K pq_X10_riders_ 2 (pc' := 5) (L' := [some (.ref 0), some (.int v_inTrain), some (.int v_inCar), some (.long x3_5), none, some (.int ((nI i5) + 1))]) (S' := []) (C' := mcX10_riders_ f_there f_marked f_trains f_step a_size a_train a_car) rfl trivial ?_
        exact xR_less2 (ih (i5 + 1) _ (by omega)) ⟨rfl, rfl, rfl, rfl, xcnt i5, trivial⟩
  refine xR_st K pq_X10_riders_ 4 (pc' := 5) (L' := [some (.ref 0), some (.int v_inTrain), some (.int v_inCar), some (.long 0), none, some (.int 0)]) (S' := []) (C' := mcX10_riders_ f_there f_marked f_trains f_step a_size a_train a_car) rfl trivial ?_
  exact xR_less2 (J5 _ _ _ (by first | rfl | omega)) ⟨rfl, rfl, rfl, rfl, rfl, trivial⟩
def pg_X10_mates : xPg := [(0, .aload_n 0, .null), (1, .aload_n 0, .null), (2, .getfield 18, .retAddr 1002), (5, .iload_n 1, .null), (6, .invokestatic 80, .null), (9, .aload_n 0, .null), (10, .getfield 21, .retAddr 1003), (13, .iload_n 1, .null), (14, .invokestatic 80, .null), (17, .invokevirtual 148, .null), (20, .lreturn, .null)]
theorem pq_X10_mates : xPq RX10 cX10_mates tb_X10 pg_X10_mates := ⟨tab_X10, xPok_of (by decide +kernel)⟩
theorem cy_X10_mates : xCy yX10_mates cX10_mates 2 (some .long) := ⟨xtb_in (i := 999) (by decide +kernel) rfl, xtb_in (i := 156) (by decide +kernel) rfl, by decide +kernel, by decide +kernel⟩
theorem si_X10_mates : Cond.instanceMethod yX10_mates ∈ xtb ∧ Cond.selects yX10_mates.cls yX10_mates yX10_mates ∈ xtb := ⟨xtb_in (i := 997) (by decide +kernel) rfl, xtb_in (i := 998) (by decide +kernel) rfl⟩
theorem ar_X10_mates : xar yX10_mates 1 := by unfold xar; decide +kernel
def mcX10_mates (f_there : Int64) (f_marked : Int64) (f_trains : Int32) (f_step : Int32) (a_size : Nat → Int32) (a_train : Nat → Int32) (a_car : Nat → Int32) : xC := [(0, .inr (10, [.ref 1, .ref 2, .ref 3, .ref 4, .ref 5, .ref 6, .ref 7, .ref 8, .ref 9, .long f_there, .long f_marked, .int f_trains, .int f_step])), (1, .inl (0, 40, .inl a_size)), (3, .inl (0, 40, .inl a_train)), (4, .inl (0, 40, .inl a_car))]
def meX10_mates (f_there : Int64) (f_marked : Int64) (f_trains : Int32) (f_step : Int32) (a_size : Nat → Int32) (a_train : Nat → Int32) (a_car : Nat → Int32) : Int64 → xRes := fun r => some (some (.long r), mcX10_mates f_there f_marked f_trains f_step a_size a_train a_car)
def mX10_mates (v_t : Int32) (a_size : Nat → Int32) (a_train : Nat → Int32) (a_car : Nat → Int32) : Int64 :=
  mX10_riders_ (mX11_at 40 v_t a_train) (mX11_at 40 v_t a_car) a_size a_train a_car
set_option maxRecDepth 100000 in
set_option maxHeartbeats 1500000 in
theorem kX10_mates (l : Launch) (v_t : Int32) (f_there : Int64) (f_marked : Int64) (f_trains : Int32) (f_step : Int32) (a_size : Nat → Int32) (a_train : Nat → Int32) (a_car : Nat → Int32)  : xMet l 2 yX10_mates cX10_mates 2 (some .long) [.ref 0, .int v_t] (mcX10_mates f_there f_marked f_trains f_step a_size a_train a_car) (meX10_mates f_there f_marked f_trains f_step a_size a_train a_car (mX10_mates v_t a_size a_train a_car)) := by
  refine xMet_of cy_X10_mates [some (.ref 0), some (.int v_t)] rfl (Nat.le_of_ble_eq_true rfl) (fun X K => ?_)
  refine xR_st K pq_X10_mates 4 (pc' := 6) (L' := [some (.ref 0), some (.int v_t)]) (S' := [.int v_t, .ref 3, .ref 0]) (C' := mcX10_mates f_there f_marked f_trains f_step a_size a_train a_car) rfl trivial ?_
  refine xR_callS3 K pq_X10_mates rfl lk_X10_80 cy_X11_at ss_X11_at ar_X11_at (rest := [.ref 0]) (kX11_at l 40 v_t a_train (by first | assumption | decide | omega)) (by decide) (by decide) (S2 := [.int (mX11_at 40 v_t a_train), .ref 0]) (C2 := mcX10_mates f_there f_marked f_trains f_step a_size a_train a_car) (fun k => k - 1000 + 3) [2] rfl rfl (Nat.le_of_ble_eq_true rfl) rfl (by decide) rfl rfl rfl ?_
  refine xR_st K pq_X10_mates 3 (pc' := 14) (L' := [some (.ref 0), some (.int v_t)]) (S' := [.int v_t, .ref 4, .int (mX11_at 40 v_t a_train), .ref 0]) (C' := mcX10_mates f_there f_marked f_trains f_step a_size a_train a_car) rfl trivial ?_
  refine xR_callS3 K pq_X10_mates rfl lk_X10_80 cy_X11_at ss_X11_at ar_X11_at (rest := [.int (mX11_at 40 v_t a_train), .ref 0]) (kX11_at l 40 v_t a_car (by first | assumption | decide | omega)) (by decide) (by decide) (S2 := [.int (mX11_at 40 v_t a_car), .int (mX11_at 40 v_t a_train), .ref 0]) (C2 := mcX10_mates f_there f_marked f_trains f_step a_size a_train a_car) (fun k => k - 1000 + 4) [3] rfl rfl (Nat.le_of_ble_eq_true rfl) rfl (by decide) rfl rfl rfl ?_
  refine xR_callV3 K pq_X10_mates rfl lk_X10_148 cy_X10_riders_ si_X10_riders_ ar_X10_riders_ (rest := []) (kX10_riders_ l (mX11_at 40 v_t a_train) (mX11_at 40 v_t a_car) f_there f_marked f_trains f_step a_size a_train a_car) (by decide) (by decide) rfl rfl (S2 := [.long (mX10_riders_ (mX11_at 40 v_t a_train) (mX11_at 40 v_t a_car) a_size a_train a_car)]) (C2 := mcX10_mates f_there f_marked f_trains f_step a_size a_train a_car) id [0, 1, 2, 3] rfl rfl (Nat.le_of_ble_eq_true rfl) rfl (by decide) rfl rfl rfl ?_
  exact xR_retl K pq_X10_mates rfl
def pg_X10_allCars : xPg := [(0, .iconst 0, .int 0), (1, .istore_n 1, .null), (2, .iconst 0, .int 0), (3, .istore_n 2, .null), (4, .iload_n 2, .null), (5, .aload_n 0, .null), (6, .getfield 56, .retAddr 1011), (9, .if_icmp .ge 24, .retAddr 33), (12, .iload_n 2, .null), (13, .bipush 42, .int 42), (15, .if_icmp .ge 18, .retAddr 33), (18, .iload_n 1, .null), (19, .aload_n 0, .null), (20, .getfield 33, .retAddr 1007), (23, .iload_n 2, .null), (24, .iaload, .null), (25, .iadd, .null), (26, .istore_n 1, .null), (27, .iinc 2 1, .int 1), (30, .goto (-26), .retAddr 4), (33, .iload_n 1, .null), (34, .ireturn, .null)]
theorem pq_X10_allCars : xPq RX10 cX10_allCars tb_X10 pg_X10_allCars := ⟨tab_X10, xPok_of (by decide +kernel)⟩
theorem cy_X10_allCars : xCy yX10_allCars cX10_allCars 3 (some .int) := ⟨xtb_in (i := 978) (by decide +kernel) rfl, xtb_in (i := 156) (by decide +kernel) rfl, by decide +kernel, by decide +kernel⟩
theorem si_X10_allCars : Cond.instanceMethod yX10_allCars ∈ xtb ∧ Cond.selects yX10_allCars.cls yX10_allCars yX10_allCars ∈ xtb := ⟨xtb_in (i := 976) (by decide +kernel) rfl, xtb_in (i := 977) (by decide +kernel) rfl⟩
theorem ar_X10_allCars : xar yX10_allCars 0 := by unfold xar; decide +kernel
def mcX10_allCars (f_there : Int64) (f_marked : Int64) (f_trains : Int32) (f_step : Int32) (a_cars : Nat → Int32) : xC := [(0, .inr (10, [.ref 1, .ref 2, .ref 3, .ref 4, .ref 5, .ref 6, .ref 7, .ref 8, .ref 9, .long f_there, .long f_marked, .int f_trains, .int f_step])), (8, .inl (0, 42, .inl a_cars))]
def meX10_allCars (f_there : Int64) (f_marked : Int64) (f_trains : Int32) (f_step : Int32) (a_cars : Nat → Int32) : Int32 → xRes := fun r => some (some (.int r), mcX10_allCars f_there f_marked f_trains f_step a_cars)
def mX10_allCars_4 (f_trains : Int32) (a_cars : Nat → Int32)  : Nat → Nat → Int32 → Int32
  | 0, i4, x1_4 => if (nI i4) < f_trains then
      x1_4
    else
      x1_4
  | k4 + 1, i4, x1_4 =>
    if (nI i4) < f_trains then
      mX10_allCars_4 f_trains a_cars k4 (i4 + 1) (x1_4 + (a_cars (nI i4).toNatClampNeg))
    else
      x1_4
def mX10_allCars (f_trains : Int32) (a_cars : Nat → Int32) : Int32 :=
  mX10_allCars_4 f_trains a_cars 42 0 (0 : Int32)
set_option maxRecDepth 100000 in
set_option maxHeartbeats 1500000 in
theorem kX10_allCars (l : Launch) (f_there : Int64) (f_marked : Int64) (f_trains : Int32) (f_step : Int32) (a_cars : Nat → Int32)  : xMet l 0 yX10_allCars cX10_allCars 3 (some .int) [.ref 0] (mcX10_allCars f_there f_marked f_trains f_step a_cars) (meX10_allCars f_there f_marked f_trains f_step a_cars (mX10_allCars f_trains a_cars)) := by
  refine xMet_of cy_X10_allCars [some (.ref 0), none, none] rfl (Nat.le_of_ble_eq_true rfl) (fun X K => ?_)
  have J4 : ∀ (k4 i4 : Nat) (x1_4 : Int32) (hik4 : i4 + k4 = 42), xR X (meX10_allCars f_there f_marked f_trains f_step a_cars (mX10_allCars_4 f_trains a_cars k4 i4 x1_4)) 4 [some (.ref 0), some (.int x1_4), some (.int (nI i4))] [] (mcX10_allCars f_there f_marked f_trains f_step a_cars) := by
    intro k4
    induction k4 with
    | zero =>
      intro i4 x1_4 hik4
      rw [mX10_allCars_4.eq_1]
      refine xR_st K pq_X10_allCars 3 (pc' := 9) (L' := [some (.ref 0), some (.int x1_4), some (.int (nI i4))]) (S' := [.int f_trains, .int (nI i4)]) (C' := mcX10_allCars f_there f_marked f_trains f_step a_cars) rfl trivial ?_
      refine xR_i2 (enc := meX10_allCars f_there f_marked f_trains f_step a_cars) (q1 := 12) (q2 := 33) K pq_X10_allCars rfl rfl rfl rfl (fun h2 => ?_) (fun h2 => ?_)
      · refine xR_st K pq_X10_allCars 2 (pc' := 15) (L' := [some (.ref 0), some (.int x1_4), some (.int (nI i4))]) (S' := [.int 42, .int (nI i4)]) (C' := mcX10_allCars f_there f_marked f_trains f_step a_cars) rfl trivial ?_
        refine xR_if2 K pq_X10_allCars rfl ⟨rfl, rfl⟩ (fun _ => ?_) (fun hx => absurd hx (xlt_no 42 hik4 (by first | assumption | decide)))
        refine xR_st K pq_X10_allCars 1 (pc' := 34) (L' := [some (.ref 0), some (.int x1_4), some (.int (nI i4))]) (S' := [.int x1_4]) (C' := mcX10_allCars f_there f_marked f_trains f_step a_cars) rfl trivial ?_
        exact xR_ret K pq_X10_allCars rfl
      · refine xR_st K pq_X10_allCars 1 (pc' := 34) (L' := [some (.ref 0), some (.int x1_4), some (.int (nI i4))]) (S' := [.int x1_4]) (C' := mcX10_allCars f_there f_marked f_trains f_step a_cars) rfl trivial ?_
        exact xR_ret K pq_X10_allCars rfl
    | succ k4 ih =>
      intro i4 x1_4 hik4
      rw [mX10_allCars_4.eq_2]
      refine xR_st K pq_X10_allCars 3 (pc' := 9) (L' := [some (.ref 0), some (.int x1_4), some (.int (nI i4))]) (S' := [.int f_trains, .int (nI i4)]) (C' := mcX10_allCars f_there f_marked f_trains f_step a_cars) rfl trivial ?_
      refine xR_i2 (enc := meX10_allCars f_there f_marked f_trains f_step a_cars) (q1 := 12) (q2 := 33) K pq_X10_allCars rfl rfl rfl rfl (fun h1 => ?_) (fun h1 => ?_)
      · refine xR_st K pq_X10_allCars 2 (pc' := 15) (L' := [some (.ref 0), some (.int x1_4), some (.int (nI i4))]) (S' := [.int 42, .int (nI i4)]) (C' := mcX10_allCars f_there f_marked f_trains f_step a_cars) rfl trivial ?_
        refine xR_if2 K pq_X10_allCars rfl ⟨rfl, rfl⟩ (fun hx => absurd (xlt_yes 42 hik4 (by first | assumption | decide)) hx) (fun _ => ?_)
        refine xR_st K pq_X10_allCars 9 (pc' := 4) (L' := [some (.ref 0), some (.int (x1_4 + (a_cars (nI i4).toNatClampNeg))), some (.int ((nI i4) + 1))]) (S' := []) (C' := mcX10_allCars f_there f_marked f_trains f_step a_cars) rfl ⟨xin_nat rfl (by omega) (by first | assumption | decide), trivial⟩ ?_
        exact xR_less2 (ih (i4 + 1) _ (by omega)) ⟨rfl, rfl, xcnt i4, trivial⟩
      · refine xR_st K pq_X10_allCars 1 (pc' := 34) (L' := [some (.ref 0), some (.int x1_4), some (.int (nI i4))]) (S' := [.int x1_4]) (C' := mcX10_allCars f_there f_marked f_trains f_step a_cars) rfl trivial ?_
        exact xR_ret K pq_X10_allCars rfl
  refine xR_st K pq_X10_allCars 4 (pc' := 4) (L' := [some (.ref 0), some (.int 0), some (.int 0)]) (S' := []) (C' := mcX10_allCars f_there f_marked f_trains f_step a_cars) rfl trivial ?_
  exact xR_less2 (J4 _ _ _ (by first | rfl | omega)) ⟨rfl, rfl, rfl, trivial⟩
def pg_X10_load : xPg := [(0, .iconst 0, .int 0), (1, .istore_n 3, .null), (2, .iconst 0, .int 0), (3, .istore 4, .null), (5, .iload 4, .null), (7, .bipush 40, .int 40), (9, .if_icmp .ge 32, .retAddr 41), (12, .iload_n 3, .null), (13, .lload_n 1, .null), (14, .iload 4, .null), (16, .invokestatic 104, .null), (19, .ifCond .eq 13, .retAddr 32), (22, .aload_n 0, .null), (23, .getfield 9, .retAddr 1000), (26, .iload 4, .null), (28, .iaload, .null), (29, .goto 4, .retAddr 33), (32, .iconst 0, .int 0), (33, .iadd, .null), (34, .istore_n 3, .null), (35, .iinc 4 1, .int 1), (38, .goto (-33), .retAddr 5), (41, .iload_n 3, .null), (42, .ireturn, .null)]
theorem pq_X10_load : xPq RX10 cX10_load tb_X10 pg_X10_load := ⟨tab_X10, xPok_of (by decide +kernel)⟩
theorem cy_X10_load : xCy yX10_load cX10_load 5 (some .int) := ⟨xtb_in (i := 982) (by decide +kernel) rfl, xtb_in (i := 156) (by decide +kernel) rfl, by decide +kernel, by decide +kernel⟩
theorem si_X10_load : Cond.instanceMethod yX10_load ∈ xtb ∧ Cond.selects yX10_load.cls yX10_load yX10_load ∈ xtb := ⟨xtb_in (i := 980) (by decide +kernel) rfl, xtb_in (i := 981) (by decide +kernel) rfl⟩
theorem ar_X10_load : xar yX10_load 1 := by unfold xar; decide +kernel
def mcX10_load (f_there : Int64) (f_marked : Int64) (f_trains : Int32) (f_step : Int32) (a_size : Nat → Int32) : xC := [(0, .inr (10, [.ref 1, .ref 2, .ref 3, .ref 4, .ref 5, .ref 6, .ref 7, .ref 8, .ref 9, .long f_there, .long f_marked, .int f_trains, .int f_step])), (1, .inl (0, 40, .inl a_size))]
def meX10_load (f_there : Int64) (f_marked : Int64) (f_trains : Int32) (f_step : Int32) (a_size : Nat → Int32) : Int32 → xRes := fun r => some (some (.int r), mcX10_load f_there f_marked f_trains f_step a_size)
def mX10_load_5 (v_group : Int64) (a_size : Nat → Int32)  : Nat → Nat → Int32 → Int32
  | 0, i5, x3_5 => x3_5
  | k5 + 1, i5, x3_5 =>
    if (mX11_in v_group (nI i5)) = true then
      mX10_load_5 v_group a_size k5 (i5 + 1) (x3_5 + (a_size (nI i5).toNatClampNeg))
    else
      mX10_load_5 v_group a_size k5 (i5 + 1) (x3_5 + 0)
def mX10_load (v_group : Int64) (a_size : Nat → Int32) : Int32 :=
  mX10_load_5 v_group a_size 40 0 (0 : Int32)
set_option maxRecDepth 100000 in
set_option maxHeartbeats 1500000 in
theorem kX10_load (l : Launch) (v_group : Int64) (f_there : Int64) (f_marked : Int64) (f_trains : Int32) (f_step : Int32) (a_size : Nat → Int32)  : xMet l 1 yX10_load cX10_load 5 (some .int) [.ref 0, .long v_group] (mcX10_load f_there f_marked f_trains f_step a_size) (meX10_load f_there f_marked f_trains f_step a_size (mX10_load v_group a_size)) := by
  refine xMet_of cy_X10_load [some (.ref 0), some (.long v_group), none, none, none] rfl (Nat.le_of_ble_eq_true rfl) (fun X K => ?_)
  have J5 : ∀ (k5 i5 : Nat) (x3_5 : Int32) (hik5 : i5 + k5 = 40), xR X (meX10_load f_there f_marked f_trains f_step a_size (mX10_load_5 v_group a_size k5 i5 x3_5)) 5 [some (.ref 0), some (.long v_group), none, some (.int x3_5), some (.int (nI i5))] [] (mcX10_load f_there f_marked f_trains f_step a_size) := by
    intro k5
    induction k5 with
    | zero =>
      intro i5 x3_5 hik5
      rw [mX10_load_5.eq_1]
      refine xR_st K pq_X10_load 2 (pc' := 9) (L' := [some (.ref 0), some (.long v_group), none, some (.int x3_5), some (.int (nI i5))]) (S' := [.int 40, .int (nI i5)]) (C' := mcX10_load f_there f_marked f_trains f_step a_size) rfl trivial ?_
      refine xR_if2 K pq_X10_load rfl ⟨rfl, rfl⟩ (fun _ => ?_) (fun hx => absurd hx (xlt_no 40 hik5 (by first | assumption | decide)))
      refine xR_st K pq_X10_load 1 (pc' := 42) (L' := [some (.ref 0), some (.long v_group), none, some (.int x3_5), some (.int (nI i5))]) (S' := [.int x3_5]) (C' := mcX10_load f_there f_marked f_trains f_step a_size) rfl trivial ?_
      exact xR_ret K pq_X10_load rfl
    | succ k5 ih =>
      intro i5 x3_5 hik5
      rw [mX10_load_5.eq_2]
      refine xR_st K pq_X10_load 2 (pc' := 9) (L' := [some (.ref 0), some (.long v_group), none, some (.int x3_5), some (.int (nI i5))]) (S' := [.int 40, .int (nI i5)]) (C' := mcX10_load f_there f_marked f_trains f_step a_size) rfl trivial ?_
      refine xR_if2 K pq_X10_load rfl ⟨rfl, rfl⟩ (fun hx => absurd (xlt_yes 40 hik5 (by first | assumption | decide)) hx) (fun _ => ?_)
      refine xR_st K pq_X10_load 3 (pc' := 16) (L' := [some (.ref 0), some (.long v_group), none, some (.int x3_5), some (.int (nI i5))]) (S' := [.int (nI i5), .long v_group, .int x3_5]) (C' := mcX10_load f_there f_marked f_trains f_step a_size) rfl trivial ?_
      refine xR_callS3 K pq_X10_load rfl lk_X10_104 cy_X11_in ss_X11_in ar_X11_in (rest := [.int x3_5]) (kX11_in l v_group (nI i5)) (by decide) (by decide) (S2 := [.int (xb (mX11_in v_group (nI i5))), .int x3_5]) (C2 := mcX10_load f_there f_marked f_trains f_step a_size) id [] rfl rfl (Nat.le_of_ble_eq_true rfl) rfl (by decide) rfl rfl rfl ?_
      refine xR_ib (enc := meX10_load f_there f_marked f_trains f_step a_size) (q1 := 22) (q2 := 32) K pq_X10_load rfl (by first | exact Or.inl rfl | exact Or.inr rfl) rfl rfl (fun h1 => ?_) (fun h1 => ?_)
      · refine xR_st K pq_X10_load 9 (pc' := 5) (L' := [some (.ref 0), some (.long v_group), none, some (.int (x3_5 + (a_size (nI i5).toNatClampNeg))), some (.int ((nI i5) + 1))]) (S' := []) (C' := mcX10_load f_there f_marked f_trains f_step a_size) rfl ⟨xin_nat rfl (by omega) (by first | assumption | decide), trivial⟩ ?_
        exact xR_less2 (ih (i5 + 1) _ (by omega)) ⟨rfl, rfl, rfl, xcnt i5, trivial⟩
      · refine xR_st K pq_X10_load 5 (pc' := 5) (L' := [some (.ref 0), some (.long v_group), none, some (.int (x3_5 + 0)), some (.int ((nI i5) + 1))]) (S' := []) (C' := mcX10_load f_there f_marked f_trains f_step a_size) rfl trivial ?_
        exact xR_less2 (ih (i5 + 1) _ (by omega)) ⟨rfl, rfl, rfl, xcnt i5, trivial⟩
  refine xR_st K pq_X10_load 4 (pc' := 5) (L' := [some (.ref 0), some (.long v_group), none, some (.int 0), some (.int 0)]) (S' := []) (C' := mcX10_load f_there f_marked f_trains f_step a_size) rfl trivial ?_
  exact xR_less2 (J5 _ _ _ (by first | rfl | omega)) ⟨rfl, rfl, rfl, rfl, trivial⟩
def pg_X10_refs : xPg := [(0, .iconst 0, .int 0), (1, .istore 4, .null), (3, .iconst 0, .int 0), (4, .istore 5, .null), (6, .iload 5, .null), (8, .bipush 8, .int 8), (10, .if_icmp .ge 30, .retAddr 40), (13, .iload 4, .null), (15, .aload_n 0, .null), (16, .getfield 30, .retAddr 1006), (19, .iload 5, .null), (21, .iaload, .null), (22, .iload_n 1, .null), (23, .if_icmp .ne 7, .retAddr 30), (26, .iconst 1, .int 1), (27, .goto 4, .retAddr 31), (30, .iconst 0, .int 0), (31, .iadd, .null), (32, .istore 4, .null), (34, .iinc 5 1, .int 1), (37, .goto (-31), .retAddr 6), (40, .aload_n 0, .null), (41, .getfield 36, .retAddr 1008), (44, .iload_n 1, .null), (45, .invokestatic 128, .null), (48, .lload_n 2, .null), (49, .ldc2_w 116, .long (-1)), (52, .lxor, .null), (53, .land, .null), (54, .lstore 5, .null), (56, .iconst 0, .int 0), (57, .istore 7, .null), (59, .iload 7, .null), (61, .bipush 40, .int 40), (63, .if_icmp .ge 75, .retAddr 138), (66, .lload 5, .null), (68, .lconst 0, .long 0), (69, .lcmp, .null), (70, .ifCond .eq 68, .retAddr 138), (73, .lload 5, .null), (75, .invokestatic 144, .null), (78, .iconst 4, .int 4), (79, .imul, .null), (80, .istore 8, .null), (82, .lload 5, .null), (84, .lload 5, .null), (86, .lconst 1, .long 1), (87, .lsub, .null), (88, .land, .null), (89, .lstore 5, .null), (91, .iconst 0, .int 0), (92, .istore 9, .null), (94, .iload 9, .null), (96, .iconst 4, .int 4), (97, .if_icmp .ge 35, .retAddr 132), (100, .iload 4, .null), (102, .aload_n 0, .null), (103, .getfield 27, .retAddr 1005), (106, .iload 8, .null), (108, .iload 9, .null), (110, .iadd, .null), (111, .invokestatic 80, .null), (114, .iload_n 1, .null), (115, .if_icmp .ne 7, .retAddr 122), (118, .iconst 1, .int 1), (119, .goto 4, .retAddr 123), (122, .iconst 0, .int 0), (123, .iadd, .null), (124, .istore 4, .null), (126, .iinc 9 1, .int 1), (129, .goto (-35), .retAddr 94), (132, .iinc 7 1, .int 1), (135, .goto (-76), .retAddr 59), (138, .iload 4, .null), (140, .ireturn, .null)]
theorem pq_X10_refs : xPq RX10 cX10_refs tb_X10 pg_X10_refs := ⟨tab_X10, xPok_of (by decide +kernel)⟩
theorem cy_X10_refs : xCy yX10_refs cX10_refs 10 (some .int) := ⟨xtb_in (i := 1007) (by decide +kernel) rfl, xtb_in (i := 156) (by decide +kernel) rfl, by decide +kernel, by decide +kernel⟩
theorem si_X10_refs : Cond.instanceMethod yX10_refs ∈ xtb ∧ Cond.selects yX10_refs.cls yX10_refs yX10_refs ∈ xtb := ⟨xtb_in (i := 1005) (by decide +kernel) rfl, xtb_in (i := 1006) (by decide +kernel) rfl⟩
theorem ar_X10_refs : xar yX10_refs 2 := by unfold xar; decide +kernel
def mcX10_refs (f_there : Int64) (f_marked : Int64) (f_trains : Int32) (f_step : Int32) (a_links : Nat → Int32) (a_roots : Nat → Int32) (a_from : Nat → Int64) : xC := [(0, .inr (10, [.ref 1, .ref 2, .ref 3, .ref 4, .ref 5, .ref 6, .ref 7, .ref 8, .ref 9, .long f_there, .long f_marked, .int f_trains, .int f_step])), (6, .inl (0, 160, .inl a_links)), (7, .inl (0, 8, .inl a_roots)), (9, .inl (1, 40, .inr (.inl a_from)))]
def meX10_refs (f_there : Int64) (f_marked : Int64) (f_trains : Int32) (f_step : Int32) (a_links : Nat → Int32) (a_roots : Nat → Int32) (a_from : Nat → Int64) : Int32 → xRes := fun r => some (some (.int r), mcX10_refs f_there f_marked f_trains f_step a_links a_roots a_from)
def mX10_refs_94 (v_t : Int32) (a_links : Nat → Int32) (x5_59 : Int64) (K59 : Int32 → Int64 → Int32) : Nat → Nat → Int32 → Int32
  | 0, i94, x4_94 => K59 x4_94 (x5_59 &&& (x5_59 - 1))
  | k94 + 1, i94, x4_94 =>
    if (mX11_at 160 (((mX11_lowest x5_59) * 4) + (nI i94)) a_links) = v_t then
      mX10_refs_94 v_t a_links x5_59 K59 k94 (i94 + 1) (x4_94 + 1)
    else
      mX10_refs_94 v_t a_links x5_59 K59 k94 (i94 + 1) (x4_94 + 0)
def mX10_refs_59 (v_t : Int32) (a_links : Nat → Int32)  : Nat → Nat → Int32 → Int64 → Int32
  | 0, i59, x4_59, x5_59 => x4_59
  | k59 + 1, i59, x4_59, x5_59 =>
    if x5_59 = (0 : Int64) then
      x4_59
    else
      mX10_refs_94 v_t a_links x5_59 (fun zx4_59 zx5_59 => mX10_refs_59 v_t a_links k59 (i59 + 1) zx4_59 zx5_59) 4 0 x4_59
def mX10_refs_6 (v_t : Int32) (v_group : Int64) (a_links : Nat → Int32) (a_roots : Nat → Int32) (a_from : Nat → Int64)  : Nat → Nat → Int32 → Int32
  | 0, i6, x4_6 => mX10_refs_59 v_t a_links 40 0 x4_6 ((mX11_maskAt 40 v_t a_from) &&& (v_group ^^^ (-1)))
  | k6 + 1, i6, x4_6 =>
    if (a_roots (nI i6).toNatClampNeg) = v_t then
      mX10_refs_6 v_t v_group a_links a_roots a_from k6 (i6 + 1) (x4_6 + 1)
    else
      mX10_refs_6 v_t v_group a_links a_roots a_from k6 (i6 + 1) (x4_6 + 0)
def mX10_refs (v_t : Int32) (v_group : Int64) (a_links : Nat → Int32) (a_roots : Nat → Int32) (a_from : Nat → Int64) : Int32 :=
  mX10_refs_6 v_t v_group a_links a_roots a_from 8 0 (0 : Int32)
set_option maxRecDepth 100000 in
set_option maxHeartbeats 1500000 in
theorem kX10_refs (l : Launch) (v_t : Int32) (v_group : Int64) (f_there : Int64) (f_marked : Int64) (f_trains : Int32) (f_step : Int32) (a_links : Nat → Int32) (a_roots : Nat → Int32) (a_from : Nat → Int64)  : xMet l 2 yX10_refs cX10_refs 10 (some .int) [.ref 0, .int v_t, .long v_group] (mcX10_refs f_there f_marked f_trains f_step a_links a_roots a_from) (meX10_refs f_there f_marked f_trains f_step a_links a_roots a_from (mX10_refs v_t v_group a_links a_roots a_from)) := by
  refine xMet_of cy_X10_refs [some (.ref 0), some (.int v_t), some (.long v_group), none, none, none, none, none, none, none] rfl (Nat.le_of_ble_eq_true rfl) (fun X K => ?_)
  have J94 : ∀ (i59 : Nat) (x5_59 : Int64) (K59 : Int32 → Int64 → Int32) (hK59 : ∀ (zx4_59 : Int32) (zx5_59 : Int64), xR X (meX10_refs f_there f_marked f_trains f_step a_links a_roots a_from (K59 zx4_59 zx5_59)) 59 [some (.ref 0), some (.int v_t), none, none, some (.int zx4_59), some (.long zx5_59), none, some (.int (nI (i59 + 1))), none, none] [] (mcX10_refs f_there f_marked f_trains f_step a_links a_roots a_from)) (k94 i94 : Nat) (x4_94 : Int32) (hik94 : i94 + k94 = 4) (g0_94 : i59 < 40) (g1_94 : ¬ x5_59 = (0 : Int64)), xR X (meX10_refs f_there f_marked f_trains f_step a_links a_roots a_from (mX10_refs_94 v_t a_links x5_59 K59 k94 i94 x4_94)) 94 [some (.ref 0), some (.int v_t), none, none, some (.int x4_94), some (.long (x5_59 &&& (x5_59 - 1))), none, some (.int (nI i59)), some (.int ((mX11_lowest x5_59) * 4)), some (.int (nI i94))] [] (mcX10_refs f_there f_marked f_trains f_step a_links a_roots a_from) := by
    intro i59 x5_59 K59 hK59 k94
    induction k94 with
    | zero =>
      intro i94 x4_94 hik94 g0_94 g1_94
      rw [mX10_refs_94.eq_1]
      refine xR_st K pq_X10_refs 2 (pc' := 97) (L' := [some (.ref 0), some (.int v_t), none, none, some (.int x4_94), some (.long (x5_59 &&& (x5_59 - 1))), none, some (.int (nI i59)), some (.int ((mX11_lowest x5_59) * 4)), some (.int (nI i94))]) (S' := [.int 4, .int (nI i94)]) (C' := mcX10_refs f_there f_marked f_trains f_step a_links a_roots a_from) rfl trivial ?_
      refine xR_if2 K pq_X10_refs rfl ⟨rfl, rfl⟩ (fun _ => ?_) (fun hx => absurd hx (xlt_no 4 hik94 (by first | assumption | decide)))
      refine xR_st K pq_X10_refs 2 (pc' := 59) (L' := [some (.ref 0), some (.int v_t), none, none, some (.int x4_94), some (.long (x5_59 &&& (x5_59 - 1))), none, some (.int ((nI i59) + 1)), some (.int ((mX11_lowest x5_59) * 4)), some (.int (nI i94))]) (S' := []) (C' := mcX10_refs f_there f_marked f_trains f_step a_links a_roots a_from) rfl trivial ?_
      exact xR_less2 (hK59 _ _) ⟨rfl, rfl, rfl, rfl, xcnt i59, trivial⟩
    | succ k94 ih =>
      intro i94 x4_94 hik94 g0_94 g1_94
      rw [mX10_refs_94.eq_2]
      refine xR_st K pq_X10_refs 2 (pc' := 97) (L' := [some (.ref 0), some (.int v_t), none, none, some (.int x4_94), some (.long (x5_59 &&& (x5_59 - 1))), none, some (.int (nI i59)), some (.int ((mX11_lowest x5_59) * 4)), some (.int (nI i94))]) (S' := [.int 4, .int (nI i94)]) (C' := mcX10_refs f_there f_marked f_trains f_step a_links a_roots a_from) rfl trivial ?_
      refine xR_if2 K pq_X10_refs rfl ⟨rfl, rfl⟩ (fun hx => absurd (xlt_yes 4 hik94 (by first | assumption | decide)) hx) (fun _ => ?_)
      refine xR_st K pq_X10_refs 6 (pc' := 111) (L' := [some (.ref 0), some (.int v_t), none, none, some (.int x4_94), some (.long (x5_59 &&& (x5_59 - 1))), none, some (.int (nI i59)), some (.int ((mX11_lowest x5_59) * 4)), some (.int (nI i94))]) (S' := [.int (((mX11_lowest x5_59) * 4) + (nI i94)), .ref 6, .int x4_94]) (C' := mcX10_refs f_there f_marked f_trains f_step a_links a_roots a_from) rfl trivial ?_
      refine xR_callS3 K pq_X10_refs rfl lk_X10_80 cy_X11_at ss_X11_at ar_X11_at (rest := [.int x4_94]) (kX11_at l 160 (((mX11_lowest x5_59) * 4) + (nI i94)) a_links (by first | assumption | decide | omega)) (by decide) (by decide) (S2 := [.int (mX11_at 160 (((mX11_lowest x5_59) * 4) + (nI i94)) a_links), .int x4_94]) (C2 := mcX10_refs f_there f_marked f_trains f_step a_links a_roots a_from) (fun k => k - 1000 + 6) [1] rfl rfl (Nat.le_of_ble_eq_true rfl) rfl (by decide) rfl rfl rfl ?_
      refine xR_st K pq_X10_refs 1 (pc' := 115) (L' := [some (.ref 0), some (.int v_t), none, none, some (.int x4_94), some (.long (x5_59 &&& (x5_59 - 1))), none, some (.int (nI i59)), some (.int ((mX11_lowest x5_59) * 4)), some (.int (nI i94))]) (S' := [.int v_t, .int (mX11_at 160 (((mX11_lowest x5_59) * 4) + (nI i94)) a_links), .int x4_94]) (C' := mcX10_refs f_there f_marked f_trains f_step a_links a_roots a_from) rfl trivial ?_
      refine xR_i2 (enc := meX10_refs f_there f_marked f_trains f_step a_links a_roots a_from) (q1 := 118) (q2 := 122) K pq_X10_refs rfl rfl rfl rfl (fun h3 => ?_) (fun h3 => ?_)
      · refine xR_st K pq_X10_refs 6 (pc' := 94) (L' := [some (.ref 0), some (.int v_t), none, none, some (.int (x4_94 + 1)), some (.long (x5_59 &&& (x5_59 - 1))), none, some (.int (nI i59)), some (.int ((mX11_lowest x5_59) * 4)), some (.int ((nI i94) + 1))]) (S' := []) (C' := mcX10_refs f_there f_marked f_trains f_step a_links a_roots a_from) rfl trivial ?_
        exact xR_less2 (ih (i94 + 1) _ (by omega) g0_94 g1_94) ⟨rfl, rfl, rfl, rfl, rfl, rfl, xcnt i94, trivial⟩
      · refine xR_st K pq_X10_refs 5 (pc' := 94) (L' := [some (.ref 0), some (.int v_t), none, none, some (.int (x4_94 + 0)), some (.long (x5_59 &&& (x5_59 - 1))), none, some (.int (nI i59)), some (.int ((mX11_lowest x5_59) * 4)), some (.int ((nI i94) + 1))]) (S' := []) (C' := mcX10_refs f_there f_marked f_trains f_step a_links a_roots a_from) rfl trivial ?_
        exact xR_less2 (ih (i94 + 1) _ (by omega) g0_94 g1_94) ⟨rfl, rfl, rfl, rfl, rfl, rfl, xcnt i94, trivial⟩
  have J59 : ∀ (k59 i59 : Nat) (x4_59 : Int32) (x5_59 : Int64) (hik59 : i59 + k59 = 40), xR X (meX10_refs f_there f_marked f_trains f_step a_links a_roots a_from (mX10_refs_59 v_t a_links k59 i59 x4_59 x5_59)) 59 [some (.ref 0), some (.int v_t), none, none, some (.int x4_59), some (.long x5_59), none, some (.int (nI i59)), none, none] [] (mcX10_refs f_there f_marked f_trains f_step a_links a_roots a_from) := by
    intro k59
    induction k59 with
    | zero =>
      intro i59 x4_59 x5_59 hik59
      rw [mX10_refs_59.eq_1]
      refine xR_st K pq_X10_refs 2 (pc' := 63) (L' := [some (.ref 0), some (.int v_t), none, none, some (.int x4_59), some (.long x5_59), none, some (.int (nI i59)), none, none]) (S' := [.int 40, .int (nI i59)]) (C' := mcX10_refs f_there f_marked f_trains f_step a_links a_roots a_from) rfl trivial ?_
      refine xR_if2 K pq_X10_refs rfl ⟨rfl, rfl⟩ (fun _ => ?_) (fun hx => absurd hx (xlt_no 40 hik59 (by first | assumption | decide)))
      refine xR_st K pq_X10_refs 1 (pc' := 140) (L' := [some (.ref 0), some (.int v_t), none, none, some (.int x4_59), some (.long x5_59), none, some (.int (nI i59)), none, none]) (S' := [.int x4_59]) (C' := mcX10_refs f_there f_marked f_trains f_step a_links a_roots a_from) rfl trivial ?_
      exact xR_ret K pq_X10_refs rfl
    | succ k59 ih =>
      intro i59 x4_59 x5_59 hik59
      rw [mX10_refs_59.eq_2]
      refine xR_st K pq_X10_refs 2 (pc' := 63) (L' := [some (.ref 0), some (.int v_t), none, none, some (.int x4_59), some (.long x5_59), none, some (.int (nI i59)), none, none]) (S' := [.int 40, .int (nI i59)]) (C' := mcX10_refs f_there f_marked f_trains f_step a_links a_roots a_from) rfl trivial ?_
      refine xR_if2 K pq_X10_refs rfl ⟨rfl, rfl⟩ (fun hx => absurd (xlt_yes 40 hik59 (by first | assumption | decide)) hx) (fun _ => ?_)
      refine xR_st K pq_X10_refs 3 (pc' := 70) (L' := [some (.ref 0), some (.int v_t), none, none, some (.int x4_59), some (.long x5_59), none, some (.int (nI i59)), none, none]) (S' := [.int (lg_cmp x5_59 (0 : Int64))]) (C' := mcX10_refs f_there f_marked f_trains f_step a_links a_roots a_from) rfl trivial ?_
      refine xR_il (enc := meX10_refs f_there f_marked f_trains f_step a_links a_roots a_from) (q1 := 138) (q2 := 73) K pq_X10_refs rfl rfl rfl rfl (fun h2 => ?_) (fun h2 => ?_)
      · refine xR_st K pq_X10_refs 1 (pc' := 140) (L' := [some (.ref 0), some (.int v_t), none, none, some (.int x4_59), some (.long x5_59), none, some (.int (nI i59)), none, none]) (S' := [.int x4_59]) (C' := mcX10_refs f_there f_marked f_trains f_step a_links a_roots a_from) rfl trivial ?_
        exact xR_ret K pq_X10_refs rfl
      · refine xR_st K pq_X10_refs 1 (pc' := 75) (L' := [some (.ref 0), some (.int v_t), none, none, some (.int x4_59), some (.long x5_59), none, some (.int (nI i59)), none, none]) (S' := [.long x5_59]) (C' := mcX10_refs f_there f_marked f_trains f_step a_links a_roots a_from) rfl trivial ?_
        refine xR_callS3 K pq_X10_refs rfl lk_X10_144 cy_X11_lowest ss_X11_lowest ar_X11_lowest (rest := []) (kX11_lowest l x5_59) (by decide) (by decide) (S2 := [.int (mX11_lowest x5_59)]) (C2 := mcX10_refs f_there f_marked f_trains f_step a_links a_roots a_from) id [] rfl rfl (Nat.le_of_ble_eq_true rfl) rfl (by decide) rfl rfl rfl ?_
        refine xR_st K pq_X10_refs 11 (pc' := 94) (L' := [some (.ref 0), some (.int v_t), none, none, some (.int x4_59), some (.long (x5_59 &&& (x5_59 - 1))), none, some (.int (nI i59)), some (.int ((mX11_lowest x5_59) * 4)), some (.int 0)]) (S' := []) (C' := mcX10_refs f_there f_marked f_trains f_step a_links a_roots a_from) rfl trivial ?_
        exact xR_less2 (J94 i59 x5_59 _ (fun zx4_59 zx5_59 => ih (i59 + 1) zx4_59 zx5_59 (by omega)) _ _ _ (by first | rfl | omega) (by omega) h2) ⟨rfl, rfl, rfl, rfl, rfl, rfl, rfl, trivial⟩
  have J6 : ∀ (k6 i6 : Nat) (x4_6 : Int32) (hik6 : i6 + k6 = 8), xR X (meX10_refs f_there f_marked f_trains f_step a_links a_roots a_from (mX10_refs_6 v_t v_group a_links a_roots a_from k6 i6 x4_6)) 6 [some (.ref 0), some (.int v_t), some (.long v_group), none, some (.int x4_6), some (.int (nI i6)), none, none, none, none] [] (mcX10_refs f_there f_marked f_trains f_step a_links a_roots a_from) := by
    intro k6
    induction k6 with
    | zero =>
      intro i6 x4_6 hik6
      rw [mX10_refs_6.eq_1]
      refine xR_st K pq_X10_refs 2 (pc' := 10) (L' := [some (.ref 0), some (.int v_t), some (.long v_group), none, some (.int x4_6), some (.int (nI i6)), none, none, none, none]) (S' := [.int 8, .int (nI i6)]) (C' := mcX10_refs f_there f_marked f_trains f_step a_links a_roots a_from) rfl trivial ?_
      refine xR_if2 K pq_X10_refs rfl ⟨rfl, rfl⟩ (fun _ => ?_) (fun hx => absurd hx (xlt_no 8 hik6 (by first | assumption | decide)))
      refine xR_st K pq_X10_refs 3 (pc' := 45) (L' := [some (.ref 0), some (.int v_t), some (.long v_group), none, some (.int x4_6), some (.int (nI i6)), none, none, none, none]) (S' := [.int v_t, .ref 9]) (C' := mcX10_refs f_there f_marked f_trains f_step a_links a_roots a_from) rfl trivial ?_
      refine xR_callS3 K pq_X10_refs rfl lk_X10_128 cy_X11_maskAt ss_X11_maskAt ar_X11_maskAt (rest := []) (kX11_maskAt l 40 v_t a_from (by first | assumption | decide | omega)) (by decide) (by decide) (S2 := [.long (mX11_maskAt 40 v_t a_from)]) (C2 := mcX10_refs f_there f_marked f_trains f_step a_links a_roots a_from) (fun k => k - 1000 + 9) [3] rfl rfl (Nat.le_of_ble_eq_true rfl) rfl (by decide) rfl rfl rfl ?_
      refine xR_st K pq_X10_refs 7 (pc' := 59) (L' := [some (.ref 0), some (.int v_t), some (.long v_group), none, some (.int x4_6), some (.long ((mX11_maskAt 40 v_t a_from) &&& (v_group ^^^ (-1)))), none, some (.int 0), none, none]) (S' := []) (C' := mcX10_refs f_there f_marked f_trains f_step a_links a_roots a_from) rfl trivial ?_
      exact xR_less2 (J59 _ _ _ _ (by first | rfl | omega)) ⟨rfl, rfl, rfl, rfl, rfl, trivial⟩
    | succ k6 ih =>
      intro i6 x4_6 hik6
      rw [mX10_refs_6.eq_2]
      refine xR_st K pq_X10_refs 2 (pc' := 10) (L' := [some (.ref 0), some (.int v_t), some (.long v_group), none, some (.int x4_6), some (.int (nI i6)), none, none, none, none]) (S' := [.int 8, .int (nI i6)]) (C' := mcX10_refs f_there f_marked f_trains f_step a_links a_roots a_from) rfl trivial ?_
      refine xR_if2 K pq_X10_refs rfl ⟨rfl, rfl⟩ (fun hx => absurd (xlt_yes 8 hik6 (by first | assumption | decide)) hx) (fun _ => ?_)
      refine xR_st K pq_X10_refs 6 (pc' := 23) (L' := [some (.ref 0), some (.int v_t), some (.long v_group), none, some (.int x4_6), some (.int (nI i6)), none, none, none, none]) (S' := [.int v_t, .int (a_roots (nI i6).toNatClampNeg), .int x4_6]) (C' := mcX10_refs f_there f_marked f_trains f_step a_links a_roots a_from) rfl ⟨xin_nat rfl (by omega) (by first | assumption | decide), trivial⟩ ?_
      refine xR_i2 (enc := meX10_refs f_there f_marked f_trains f_step a_links a_roots a_from) (q1 := 26) (q2 := 30) K pq_X10_refs rfl rfl rfl rfl (fun h1 => ?_) (fun h1 => ?_)
      · refine xR_st K pq_X10_refs 6 (pc' := 6) (L' := [some (.ref 0), some (.int v_t), some (.long v_group), none, some (.int (x4_6 + 1)), some (.int ((nI i6) + 1)), none, none, none, none]) (S' := []) (C' := mcX10_refs f_there f_marked f_trains f_step a_links a_roots a_from) rfl trivial ?_
        exact xR_less2 (ih (i6 + 1) _ (by omega)) ⟨rfl, rfl, rfl, rfl, xcnt i6, trivial⟩
      · refine xR_st K pq_X10_refs 5 (pc' := 6) (L' := [some (.ref 0), some (.int v_t), some (.long v_group), none, some (.int (x4_6 + 0)), some (.int ((nI i6) + 1)), none, none, none, none]) (S' := []) (C' := mcX10_refs f_there f_marked f_trains f_step a_links a_roots a_from) rfl trivial ?_
        exact xR_less2 (ih (i6 + 1) _ (by omega)) ⟨rfl, rfl, rfl, rfl, xcnt i6, trivial⟩
  refine xR_st K pq_X10_refs 4 (pc' := 6) (L' := [some (.ref 0), some (.int v_t), some (.long v_group), none, some (.int 0), some (.int 0), none, none, none, none]) (S' := []) (C' := mcX10_refs f_there f_marked f_trains f_step a_links a_roots a_from) rfl trivial ?_
  exact xR_less2 (J6 _ _ _ (by first | rfl | omega)) ⟨rfl, rfl, rfl, rfl, rfl, trivial⟩
def pg_X10_refsInto : xPg := [(0, .iconst 0, .int 0), (1, .istore_n 3, .null), (2, .iconst 0, .int 0), (3, .istore 4, .null), (5, .iload 4, .null), (7, .bipush 40, .int 40), (9, .if_icmp .ge 32, .retAddr 41), (12, .iload_n 3, .null), (13, .lload_n 1, .null), (14, .iload 4, .null), (16, .invokestatic 104, .null), (19, .ifCond .eq 13, .retAddr 32), (22, .aload_n 0, .null), (23, .iload 4, .null), (25, .lload_n 1, .null), (26, .invokevirtual 152, .null), (29, .goto 4, .retAddr 33), (32, .iconst 0, .int 0), (33, .iadd, .null), (34, .istore_n 3, .null), (35, .iinc 4 1, .int 1), (38, .goto (-33), .retAddr 5), (41, .iload_n 3, .null), (42, .ireturn, .null)]
theorem pq_X10_refsInto : xPq RX10 cX10_refsInto tb_X10 pg_X10_refsInto := ⟨tab_X10, xPok_of (by decide +kernel)⟩
theorem cy_X10_refsInto : xCy yX10_refsInto cX10_refsInto 5 (some .int) := ⟨xtb_in (i := 1073) (by decide +kernel) rfl, xtb_in (i := 156) (by decide +kernel) rfl, by decide +kernel, by decide +kernel⟩
theorem si_X10_refsInto : Cond.instanceMethod yX10_refsInto ∈ xtb ∧ Cond.selects yX10_refsInto.cls yX10_refsInto yX10_refsInto ∈ xtb := ⟨xtb_in (i := 1071) (by decide +kernel) rfl, xtb_in (i := 1072) (by decide +kernel) rfl⟩
theorem ar_X10_refsInto : xar yX10_refsInto 1 := by unfold xar; decide +kernel
def mcX10_refsInto (f_there : Int64) (f_marked : Int64) (f_trains : Int32) (f_step : Int32) (a_links : Nat → Int32) (a_roots : Nat → Int32) (a_from : Nat → Int64) : xC := [(0, .inr (10, [.ref 1, .ref 2, .ref 3, .ref 4, .ref 5, .ref 6, .ref 7, .ref 8, .ref 9, .long f_there, .long f_marked, .int f_trains, .int f_step])), (6, .inl (0, 160, .inl a_links)), (7, .inl (0, 8, .inl a_roots)), (9, .inl (1, 40, .inr (.inl a_from)))]
def meX10_refsInto (f_there : Int64) (f_marked : Int64) (f_trains : Int32) (f_step : Int32) (a_links : Nat → Int32) (a_roots : Nat → Int32) (a_from : Nat → Int64) : Int32 → xRes := fun r => some (some (.int r), mcX10_refsInto f_there f_marked f_trains f_step a_links a_roots a_from)
def mX10_refsInto_5 (v_group : Int64) (a_links : Nat → Int32) (a_roots : Nat → Int32) (a_from : Nat → Int64)  : Nat → Nat → Int32 → Int32
  | 0, i5, x3_5 => x3_5
  | k5 + 1, i5, x3_5 =>
    if (mX11_in v_group (nI i5)) = true then
      mX10_refsInto_5 v_group a_links a_roots a_from k5 (i5 + 1) (x3_5 + (mX10_refs (nI i5) v_group a_links a_roots a_from))
    else
      mX10_refsInto_5 v_group a_links a_roots a_from k5 (i5 + 1) (x3_5 + 0)
def mX10_refsInto (v_group : Int64) (a_links : Nat → Int32) (a_roots : Nat → Int32) (a_from : Nat → Int64) : Int32 :=
  mX10_refsInto_5 v_group a_links a_roots a_from 40 0 (0 : Int32)
set_option maxRecDepth 100000 in
set_option maxHeartbeats 1500000 in
theorem kX10_refsInto (l : Launch) (v_group : Int64) (f_there : Int64) (f_marked : Int64) (f_trains : Int32) (f_step : Int32) (a_links : Nat → Int32) (a_roots : Nat → Int32) (a_from : Nat → Int64)  : xMet l 3 yX10_refsInto cX10_refsInto 5 (some .int) [.ref 0, .long v_group] (mcX10_refsInto f_there f_marked f_trains f_step a_links a_roots a_from) (meX10_refsInto f_there f_marked f_trains f_step a_links a_roots a_from (mX10_refsInto v_group a_links a_roots a_from)) := by
  refine xMet_of cy_X10_refsInto [some (.ref 0), some (.long v_group), none, none, none] rfl (Nat.le_of_ble_eq_true rfl) (fun X K => ?_)
  have J5 : ∀ (k5 i5 : Nat) (x3_5 : Int32) (hik5 : i5 + k5 = 40), xR X (meX10_refsInto f_there f_marked f_trains f_step a_links a_roots a_from (mX10_refsInto_5 v_group a_links a_roots a_from k5 i5 x3_5)) 5 [some (.ref 0), some (.long v_group), none, some (.int x3_5), some (.int (nI i5))] [] (mcX10_refsInto f_there f_marked f_trains f_step a_links a_roots a_from) := by
    intro k5
    induction k5 with
    | zero =>
      intro i5 x3_5 hik5
      rw [mX10_refsInto_5.eq_1]
      refine xR_st K pq_X10_refsInto 2 (pc' := 9) (L' := [some (.ref 0), some (.long v_group), none, some (.int x3_5), some (.int (nI i5))]) (S' := [.int 40, .int (nI i5)]) (C' := mcX10_refsInto f_there f_marked f_trains f_step a_links a_roots a_from) rfl trivial ?_
      refine xR_if2 K pq_X10_refsInto rfl ⟨rfl, rfl⟩ (fun _ => ?_) (fun hx => absurd hx (xlt_no 40 hik5 (by first | assumption | decide)))
      refine xR_st K pq_X10_refsInto 1 (pc' := 42) (L' := [some (.ref 0), some (.long v_group), none, some (.int x3_5), some (.int (nI i5))]) (S' := [.int x3_5]) (C' := mcX10_refsInto f_there f_marked f_trains f_step a_links a_roots a_from) rfl trivial ?_
      exact xR_ret K pq_X10_refsInto rfl
    | succ k5 ih =>
      intro i5 x3_5 hik5
      rw [mX10_refsInto_5.eq_2]
      refine xR_st K pq_X10_refsInto 2 (pc' := 9) (L' := [some (.ref 0), some (.long v_group), none, some (.int x3_5), some (.int (nI i5))]) (S' := [.int 40, .int (nI i5)]) (C' := mcX10_refsInto f_there f_marked f_trains f_step a_links a_roots a_from) rfl trivial ?_
      refine xR_if2 K pq_X10_refsInto rfl ⟨rfl, rfl⟩ (fun hx => absurd (xlt_yes 40 hik5 (by first | assumption | decide)) hx) (fun _ => ?_)
      refine xR_st K pq_X10_refsInto 3 (pc' := 16) (L' := [some (.ref 0), some (.long v_group), none, some (.int x3_5), some (.int (nI i5))]) (S' := [.int (nI i5), .long v_group, .int x3_5]) (C' := mcX10_refsInto f_there f_marked f_trains f_step a_links a_roots a_from) rfl trivial ?_
      refine xR_callS3 K pq_X10_refsInto rfl lk_X10_104 cy_X11_in ss_X11_in ar_X11_in (rest := [.int x3_5]) (kX11_in l v_group (nI i5)) (by decide) (by decide) (S2 := [.int (xb (mX11_in v_group (nI i5))), .int x3_5]) (C2 := mcX10_refsInto f_there f_marked f_trains f_step a_links a_roots a_from) id [] rfl rfl (Nat.le_of_ble_eq_true rfl) rfl (by decide) rfl rfl rfl ?_
      refine xR_ib (enc := meX10_refsInto f_there f_marked f_trains f_step a_links a_roots a_from) (q1 := 22) (q2 := 32) K pq_X10_refsInto rfl (by first | exact Or.inl rfl | exact Or.inr rfl) rfl rfl (fun h1 => ?_) (fun h1 => ?_)
      · refine xR_st K pq_X10_refsInto 3 (pc' := 26) (L' := [some (.ref 0), some (.long v_group), none, some (.int x3_5), some (.int (nI i5))]) (S' := [.long v_group, .int (nI i5), .ref 0, .int x3_5]) (C' := mcX10_refsInto f_there f_marked f_trains f_step a_links a_roots a_from) rfl trivial ?_
        refine xR_callV3 K pq_X10_refsInto rfl lk_X10_152 cy_X10_refs si_X10_refs ar_X10_refs (rest := [.int x3_5]) (kX10_refs l (nI i5) v_group f_there f_marked f_trains f_step a_links a_roots a_from) (by decide) (by decide) rfl rfl (S2 := [.int (mX10_refs (nI i5) v_group a_links a_roots a_from), .int x3_5]) (C2 := mcX10_refsInto f_there f_marked f_trains f_step a_links a_roots a_from) id [0, 1, 2, 3] rfl rfl (Nat.le_of_ble_eq_true rfl) rfl (by decide) rfl rfl rfl ?_
        refine xR_st K pq_X10_refsInto 5 (pc' := 5) (L' := [some (.ref 0), some (.long v_group), none, some (.int (x3_5 + (mX10_refs (nI i5) v_group a_links a_roots a_from))), some (.int ((nI i5) + 1))]) (S' := []) (C' := mcX10_refsInto f_there f_marked f_trains f_step a_links a_roots a_from) rfl trivial ?_
        exact xR_less2 (ih (i5 + 1) _ (by omega)) ⟨rfl, rfl, rfl, xcnt i5, trivial⟩
      · refine xR_st K pq_X10_refsInto 5 (pc' := 5) (L' := [some (.ref 0), some (.long v_group), none, some (.int (x3_5 + 0)), some (.int ((nI i5) + 1))]) (S' := []) (C' := mcX10_refsInto f_there f_marked f_trains f_step a_links a_roots a_from) rfl trivial ?_
        exact xR_less2 (ih (i5 + 1) _ (by omega)) ⟨rfl, rfl, rfl, xcnt i5, trivial⟩
  refine xR_st K pq_X10_refsInto 4 (pc' := 5) (L' := [some (.ref 0), some (.long v_group), none, some (.int 0), some (.int 0)]) (S' := []) (C' := mcX10_refsInto f_there f_marked f_trains f_step a_links a_roots a_from) rfl trivial ?_
  exact xR_less2 (J5 _ _ _ (by first | rfl | omega)) ⟨rfl, rfl, rfl, rfl, trivial⟩
def pg_X10_isReferredTo : xPg := [(0, .lload_n 2, .null), (1, .iload_n 1, .null), (2, .invokestatic 104, .null), (5, .ifCond .ne 23, .retAddr 28), (8, .aload_n 0, .null), (9, .getfield 36, .retAddr 1008), (12, .iload_n 1, .null), (13, .invokestatic 128, .null), (16, .lload 4, .null), (18, .ldc2_w 116, .long (-1)), (21, .lxor, .null), (22, .land, .null), (23, .lconst 0, .long 0), (24, .lcmp, .null), (25, .ifCond .eq 7, .retAddr 32), (28, .iconst 1, .int 1), (29, .goto 4, .retAddr 33), (32, .iconst 0, .int 0), (33, .ireturn, .null)]
theorem pq_X10_isReferredTo : xPq RX10 cX10_isReferredTo tb_X10 pg_X10_isReferredTo := ⟨tab_X10, xPok_of (by decide +kernel)⟩
theorem cy_X10_isReferredTo : xCy yX10_isReferredTo cX10_isReferredTo 6 (some .boolean) := ⟨xtb_in (i := 1123) (by decide +kernel) rfl, xtb_in (i := 156) (by decide +kernel) rfl, by decide +kernel, by decide +kernel⟩
theorem si_X10_isReferredTo : Cond.instanceMethod yX10_isReferredTo ∈ xtb ∧ Cond.selects yX10_isReferredTo.cls yX10_isReferredTo yX10_isReferredTo ∈ xtb := ⟨xtb_in (i := 1121) (by decide +kernel) rfl, xtb_in (i := 1122) (by decide +kernel) rfl⟩
theorem ar_X10_isReferredTo : xar yX10_isReferredTo 3 := by unfold xar; decide +kernel
def mcX10_isReferredTo (f_there : Int64) (f_marked : Int64) (f_trains : Int32) (f_step : Int32) (a_from : Nat → Int64) : xC := [(0, .inr (10, [.ref 1, .ref 2, .ref 3, .ref 4, .ref 5, .ref 6, .ref 7, .ref 8, .ref 9, .long f_there, .long f_marked, .int f_trains, .int f_step])), (9, .inl (1, 40, .inr (.inl a_from)))]
def meX10_isReferredTo (f_there : Int64) (f_marked : Int64) (f_trains : Int32) (f_step : Int32) (a_from : Nat → Int64) : Bool → xRes := fun r => some (some (.int (xb r)), mcX10_isReferredTo f_there f_marked f_trains f_step a_from)
def mX10_isReferredTo (v_t : Int32) (v_rooted : Int64) (v_group : Int64) (a_from : Nat → Int64) : Bool :=
  if (mX11_in v_rooted v_t) = true then
    true
  else
    if ((mX11_maskAt 40 v_t a_from) &&& (v_group ^^^ (-1))) = (0 : Int64) then
      false
    else
      true
set_option maxRecDepth 100000 in
set_option maxHeartbeats 1500000 in
theorem kX10_isReferredTo (l : Launch) (v_t : Int32) (v_rooted : Int64) (v_group : Int64) (f_there : Int64) (f_marked : Int64) (f_trains : Int32) (f_step : Int32) (a_from : Nat → Int64)  : xMet l 1 yX10_isReferredTo cX10_isReferredTo 6 (some .boolean) [.ref 0, .int v_t, .long v_rooted, .long v_group] (mcX10_isReferredTo f_there f_marked f_trains f_step a_from) (meX10_isReferredTo f_there f_marked f_trains f_step a_from (mX10_isReferredTo v_t v_rooted v_group a_from)) := by
  refine xMet_of cy_X10_isReferredTo [some (.ref 0), some (.int v_t), some (.long v_rooted), none, some (.long v_group), none] rfl (Nat.le_of_ble_eq_true rfl) (fun X K => ?_)
  refine xR_st K pq_X10_isReferredTo 2 (pc' := 2) (L' := [some (.ref 0), some (.int v_t), some (.long v_rooted), none, some (.long v_group), none]) (S' := [.int v_t, .long v_rooted]) (C' := mcX10_isReferredTo f_there f_marked f_trains f_step a_from) rfl trivial ?_
  refine xR_callS3 K pq_X10_isReferredTo rfl lk_X10_104 cy_X11_in ss_X11_in ar_X11_in (rest := []) (kX11_in l v_rooted v_t) (by decide) (by decide) (S2 := [.int (xb (mX11_in v_rooted v_t))]) (C2 := mcX10_isReferredTo f_there f_marked f_trains f_step a_from) id [] rfl rfl (Nat.le_of_ble_eq_true rfl) rfl (by decide) rfl rfl rfl ?_
  refine xR_ib (enc := meX10_isReferredTo f_there f_marked f_trains f_step a_from) (q1 := 28) (q2 := 8) K pq_X10_isReferredTo rfl (by first | exact Or.inl rfl | exact Or.inr rfl) rfl rfl (fun h1 => ?_) (fun h1 => ?_)
  · refine xR_st K pq_X10_isReferredTo 2 (pc' := 33) (L' := [some (.ref 0), some (.int v_t), some (.long v_rooted), none, some (.long v_group), none]) (S' := [.int 1]) (C' := mcX10_isReferredTo f_there f_marked f_trains f_step a_from) rfl trivial ?_
    exact xR_retb (b := true) K pq_X10_isReferredTo rfl
  · refine xR_st K pq_X10_isReferredTo 3 (pc' := 13) (L' := [some (.ref 0), some (.int v_t), some (.long v_rooted), none, some (.long v_group), none]) (S' := [.int v_t, .ref 9]) (C' := mcX10_isReferredTo f_there f_marked f_trains f_step a_from) rfl trivial ?_
    refine xR_callS3 K pq_X10_isReferredTo rfl lk_X10_128 cy_X11_maskAt ss_X11_maskAt ar_X11_maskAt (rest := []) (kX11_maskAt l 40 v_t a_from (by first | assumption | decide | omega)) (by decide) (by decide) (S2 := [.long (mX11_maskAt 40 v_t a_from)]) (C2 := mcX10_isReferredTo f_there f_marked f_trains f_step a_from) (fun k => k - 1000 + 9) [1] rfl rfl (Nat.le_of_ble_eq_true rfl) rfl (by decide) rfl rfl rfl ?_
    refine xR_st K pq_X10_isReferredTo 6 (pc' := 25) (L' := [some (.ref 0), some (.int v_t), some (.long v_rooted), none, some (.long v_group), none]) (S' := [.int (lg_cmp ((mX11_maskAt 40 v_t a_from) &&& (v_group ^^^ (-1))) (0 : Int64))]) (C' := mcX10_isReferredTo f_there f_marked f_trains f_step a_from) rfl trivial ?_
    refine xR_il (enc := meX10_isReferredTo f_there f_marked f_trains f_step a_from) (q1 := 32) (q2 := 28) K pq_X10_isReferredTo rfl rfl rfl rfl (fun h2 => ?_) (fun h2 => ?_)
    · refine xR_st K pq_X10_isReferredTo 1 (pc' := 33) (L' := [some (.ref 0), some (.int v_t), some (.long v_rooted), none, some (.long v_group), none]) (S' := [.int 0]) (C' := mcX10_isReferredTo f_there f_marked f_trains f_step a_from) rfl trivial ?_
      exact xR_retb (b := false) K pq_X10_isReferredTo rfl
    · refine xR_st K pq_X10_isReferredTo 2 (pc' := 33) (L' := [some (.ref 0), some (.int v_t), some (.long v_rooted), none, some (.long v_group), none]) (S' := [.int 1]) (C' := mcX10_isReferredTo f_there f_marked f_trains f_step a_from) rfl trivial ?_
      exact xR_retb (b := true) K pq_X10_isReferredTo rfl
