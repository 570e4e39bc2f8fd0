def pg_X8_next : xPg := [(0, .aload_n 0, .null), (1, .dup, .null), (2, .getfield 49, .retAddr 807), (5, .iconst 1, .int 1), (6, .iadd, .null), (7, .putfield 49, .retAddr 807), (10, .aload_n 0, .null), (11, .getfield 49, .retAddr 807), (14, .ifCond .lt 28, .retAddr 42), (17, .aload_n 0, .null), (18, .getfield 49, .retAddr 807), (21, .aload_n 0, .null), (22, .getfield 72, .retAddr 806), (25, .if_icmp .ge 17, .retAddr 42), (28, .aload_n 0, .null), (29, .getfield 49, .retAddr 807), (32, .sipush 1600, .int 1600), (35, .if_icmp .gt 7, .retAddr 42), (38, .iconst 1, .int 1), (39, .goto 4, .retAddr 43), (42, .iconst 0, .int 0), (43, .istore_n 1, .null), (44, .aload_n 0, .null), (45, .iload_n 1, .null), (46, .ifCond .eq 15, .retAddr 61), (49, .aload_n 0, .null), (50, .getfield 9, .retAddr 800), (53, .aload_n 0, .null), (54, .getfield 49, .retAddr 807), (57, .iaload, .null), (58, .goto 4, .retAddr 62), (61, .iconst 0, .int 0), (62, .putfield 55, .retAddr 808), (65, .aload_n 0, .null), (66, .iload_n 1, .null), (67, .ifCond .eq 15, .retAddr 82), (70, .aload_n 0, .null), (71, .getfield 15, .retAddr 801), (74, .aload_n 0, .null), (75, .getfield 49, .retAddr 807), (78, .iaload, .null), (79, .goto 7, .retAddr 86), (82, .aload_n 0, .null), (83, .getfield 58, .retAddr 809), (86, .putfield 58, .retAddr 809), (89, .aload_n 0, .null), (90, .iload_n 1, .null), (91, .ifCond .eq 15, .retAddr 106), (94, .aload_n 0, .null), (95, .getfield 18, .retAddr 802), (98, .aload_n 0, .null), (99, .getfield 49, .retAddr 807), (102, .iaload, .null), (103, .goto 4, .retAddr 107), (106, .iconst 0, .int 0), (107, .putfield 233, .retAddr 810), (110, .return_, .null)]
theorem pq_X8_next : xPq RX8 cX8_next tb_X8 pg_X8_next := ⟨tab_X8, xPok_of (by decide +kernel)⟩
theorem cy_X8_next : xCy yX8_next cX8_next 2 none := ⟨xtb_in (i := 782) (by decide +kernel) rfl, xtb_in (i := 154) (by decide +kernel) rfl, by decide +kernel, by decide +kernel⟩
theorem si_X8_next : Cond.instanceMethod yX8_next ∈ xtb ∧ Cond.selects yX8_next.cls yX8_next yX8_next ∈ xtb := ⟨xtb_in (i := 781) (by decide +kernel) rfl, xtb_in (i := 9) (by decide +kernel) rfl⟩
theorem ar_X8_next : xar yX8_next 0 := by unfold xar; decide +kernel
def mcX8_next (f_fault : Int32) (f_place : Int32) (f_tokens : Int32) (f_now : Int32) (f_kind : Int32) (f_start : Int32) (f_value : Int32) (f_open : Int32) (f_topic : Int32) (f_trainDue : Bool) (a_kinds : Nat → Int32) (a_starts : Nat → Int32) (a_values : Nat → Int32) : xC := [(0, .inr (8, [.ref 1, .ref 2, .ref 3, .int f_fault, .int f_place, .ref 4, .int f_tokens, .int f_now, .int f_kind, .int f_start, .int f_value, .int f_open, .int f_topic, .int (xb f_trainDue)])), (1, .inl (0, 1601, .inl a_kinds)), (2, .inl (0, 1601, .inl a_starts)), (3, .inl (0, 1601, .inl a_values))]
def meX8_next (f_fault : Int32) (f_place : Int32) (f_tokens : Int32) (f_now : Int32) (f_kind : Int32) (f_start : Int32) (f_value : Int32) (f_open : Int32) (f_topic : Int32) (f_trainDue : Bool) (a_kinds : Nat → Int32) (a_starts : Nat → Int32) (a_values : Nat → Int32) : Int32 × Int32 × Int32 × Int32 → xRes := fun r => some (none, mcX8_next f_fault f_place f_tokens r.1 r.2.1 r.2.2.1 r.2.2.2 f_open f_topic f_trainDue a_kinds a_starts a_values)
def mX8_next (f_tokens : Int32) (f_now : Int32) (f_start : Int32) (a_kinds : Nat → Int32) (a_starts : Nat → Int32) (a_values : Nat → Int32) : Int32 × Int32 × Int32 × Int32 :=
  if (f_now + 1) < 0 then
    (f_now + 1, (0 : Int32), f_start, (0 : Int32))
  else
    if (f_now + 1) < f_tokens then
      if 1600 < (f_now + 1) then
        (f_now + 1, (0 : Int32), f_start, (0 : Int32))
      else
        (f_now + 1, a_kinds (f_now + 1).toNatClampNeg, a_starts (f_now + 1).toNatClampNeg, a_values (f_now + 1).toNatClampNeg)
    else
      (f_now + 1, (0 : Int32), f_start, (0 : Int32))
set_option maxRecDepth 100000 in
set_option maxHeartbeats 1500000 in
theorem kX8_next (l : Launch) (f_fault : Int32) (f_place : Int32) (f_tokens : Int32) (f_now : Int32) (f_kind : Int32) (f_start : Int32) (f_value : Int32) (f_open : Int32) (f_topic : Int32) (f_trainDue : Bool) (a_kinds : Nat → Int32) (a_starts : Nat → Int32) (a_values : Nat → Int32)  : xMet l 0 yX8_next cX8_next 2 none [.ref 0] (mcX8_next f_fault f_place f_tokens f_now f_kind f_start f_value f_open f_topic f_trainDue a_kinds a_starts a_values) (meX8_next f_fault f_place f_tokens f_now f_kind f_start f_value f_open f_topic f_trainDue a_kinds a_starts a_values (mX8_next f_tokens f_now f_start a_kinds a_starts a_values)) := by
  refine xMet_of cy_X8_next [some (.ref 0), none] rfl (Nat.le_of_ble_eq_true rfl) (fun X K => ?_)
  refine xR_st K pq_X8_next 8 (pc' := 14) (L' := [some (.ref 0), none]) (S' := [.int (f_now + 1)]) (C' := mcX8_next f_fault f_place f_tokens (f_now + 1) f_kind f_start f_value f_open f_topic f_trainDue a_kinds a_starts a_values) rfl ⟨trivial, trivial⟩ ?_
  refine xR_i0 (enc := meX8_next f_fault f_place f_tokens f_now f_kind f_start f_value f_open f_topic f_trainDue a_kinds a_starts a_values) (q1 := 42) (q2 := 17) K pq_X8_next rfl rfl rfl rfl (fun h1 => ?_) (fun h1 => ?_)
  · refine xR_st K pq_X8_next 4 (pc' := 46) (L' := [some (.ref 0), some (.int 0)]) (S' := [.int 0, .ref 0]) (C' := mcX8_next f_fault f_place f_tokens (f_now + 1) f_kind f_start f_value f_open f_topic f_trainDue a_kinds a_starts a_values) rfl trivial ?_
    refine xR_if0 K pq_X8_next rfl ⟨rfl, rfl⟩ (fun _ => ?_) (fun hx => absurd hx (by decide))
    refine xR_st K pq_X8_next 4 (pc' := 67) (L' := [some (.ref 0), some (.int 0)]) (S' := [.int 0, .ref 0]) (C' := mcX8_next f_fault f_place f_tokens (f_now + 1) (0 : Int32) f_start f_value f_open f_topic f_trainDue a_kinds a_starts a_values) rfl ⟨trivial, trivial⟩ ?_
    refine xR_if0 K pq_X8_next rfl ⟨rfl, rfl⟩ (fun _ => ?_) (fun hx => absurd hx (by decide))
    refine xR_st K pq_X8_next 5 (pc' := 91) (L' := [some (.ref 0), some (.int 0)]) (S' := [.int 0, .ref 0]) (C' := mcX8_next f_fault f_place f_tokens (f_now + 1) (0 : Int32) f_start f_value f_open f_topic f_trainDue a_kinds a_starts a_values) rfl ⟨trivial, trivial⟩ ?_
    refine xR_if0 K pq_X8_next rfl ⟨rfl, rfl⟩ (fun _ => ?_) (fun hx => absurd hx (by decide))
    refine xR_st K pq_X8_next 2 (pc' := 110) (L' := [some (.ref 0), some (.int 0)]) (S' := []) (C' := mcX8_next f_fault f_place f_tokens (f_now + 1) (0 : Int32) f_start (0 : Int32) f_open f_topic f_trainDue a_kinds a_starts a_values) rfl ⟨trivial, trivial⟩ ?_
    exact xR_retv K pq_X8_next rfl
  · refine xR_st K pq_X8_next 4 (pc' := 25) (L' := [some (.ref 0), none]) (S' := [.int f_tokens, .int (f_now + 1)]) (C' := mcX8_next f_fault f_place f_tokens (f_now + 1) f_kind f_start f_value f_open f_topic f_trainDue a_kinds a_starts a_values) rfl trivial ?_
    refine xR_i2 (enc := meX8_next f_fault f_place f_tokens f_now f_kind f_start f_value f_open f_topic f_trainDue a_kinds a_starts a_values) (q1 := 28) (q2 := 42) K pq_X8_next rfl rfl rfl rfl (fun h2 => ?_) (fun h2 => ?_)
    · refine xR_st K pq_X8_next 3 (pc' := 35) (L' := [some (.ref 0), none]) (S' := [.int 1600, .int (f_now + 1)]) (C' := mcX8_next f_fault f_place f_tokens (f_now + 1) f_kind f_start f_value f_open f_topic f_trainDue a_kinds a_starts a_values) rfl trivial ?_
      refine xR_i2 (enc := meX8_next f_fault f_place f_tokens f_now f_kind f_start f_value f_open f_topic f_trainDue a_kinds a_starts a_values) (q1 := 42) (q2 := 38) K pq_X8_next rfl rfl rfl rfl (fun h3 => ?_) (fun h3 => ?_)
      · refine xR_st K pq_X8_next 4 (pc' := 46) (L' := [some (.ref 0), some (.int 0)]) (S' := [.int 0, .ref 0]) (C' := mcX8_next f_fault f_place f_tokens (f_now + 1) f_kind f_start f_value f_open f_topic f_trainDue a_kinds a_starts a_values) rfl trivial ?_
        refine xR_if0 K pq_X8_next rfl ⟨rfl, rfl⟩ (fun _ => ?_) (fun hx => absurd hx (by decide))
        refine xR_st K pq_X8_next 4 (pc' := 67) (L' := [some (.ref 0), some (.int 0)]) (S' := [.int 0, .ref 0]) (C' := mcX8_next f_fault f_place f_tokens (f_now + 1) (0 : Int32) f_start f_value f_open f_topic f_trainDue a_kinds a_starts a_values) rfl ⟨trivial, trivial⟩ ?_
        refine xR_if0 K pq_X8_next rfl ⟨rfl, rfl⟩ (fun _ => ?_) (fun hx => absurd hx (by decide))
        refine xR_st K pq_X8_next 5 (pc' := 91) (L' := [some (.ref 0), some (.int 0)]) (S' := [.int 0, .ref 0]) (C' := mcX8_next f_fault f_place f_tokens (f_now + 1) (0 : Int32) f_start f_value f_open f_topic f_trainDue a_kinds a_starts a_values) rfl ⟨trivial, trivial⟩ ?_
        refine xR_if0 K pq_X8_next rfl ⟨rfl, rfl⟩ (fun _ => ?_) (fun hx => absurd hx (by decide))
        refine xR_st K pq_X8_next 2 (pc' := 110) (L' := [some (.ref 0), some (.int 0)]) (S' := []) (C' := mcX8_next f_fault f_place f_tokens (f_now + 1) (0 : Int32) f_start (0 : Int32) f_open f_topic f_trainDue a_kinds a_starts a_values) rfl ⟨trivial, trivial⟩ ?_
        exact xR_retv K pq_X8_next rfl
      · refine xR_st K pq_X8_next 5 (pc' := 46) (L' := [some (.ref 0), some (.int 1)]) (S' := [.int 1, .ref 0]) (C' := mcX8_next f_fault f_place f_tokens (f_now + 1) f_kind f_start f_value f_open f_topic f_trainDue a_kinds a_starts a_values) rfl trivial ?_
        refine xR_if0 K pq_X8_next rfl ⟨rfl, rfl⟩ (fun hx => absurd hx (by decide)) (fun _ => ?_)
        refine xR_st K pq_X8_next 9 (pc' := 67) (L' := [some (.ref 0), some (.int 1)]) (S' := [.int 1, .ref 0]) (C' := mcX8_next f_fault f_place f_tokens (f_now + 1) (a_kinds (f_now + 1).toNatClampNeg) f_start f_value f_open f_topic f_trainDue a_kinds a_starts a_values) rfl ⟨xin_ge h1 h3 (by decide), trivial, trivial⟩ ?_
        refine xR_if0 K pq_X8_next rfl ⟨rfl, rfl⟩ (fun hx => absurd hx (by decide)) (fun _ => ?_)
        refine xR_st K pq_X8_next 9 (pc' := 91) (L' := [some (.ref 0), some (.int 1)]) (S' := [.int 1, .ref 0]) (C' := mcX8_next f_fault f_place f_tokens (f_now + 1) (a_kinds (f_now + 1).toNatClampNeg) (a_starts (f_now + 1).toNatClampNeg) f_value f_open f_topic f_trainDue a_kinds a_starts a_values) rfl ⟨xin_ge h1 h3 (by decide), trivial, trivial⟩ ?_
        refine xR_if0 K pq_X8_next rfl ⟨rfl, rfl⟩ (fun hx => absurd hx (by decide)) (fun _ => ?_)
        refine xR_st K pq_X8_next 7 (pc' := 110) (L' := [some (.ref 0), some (.int 1)]) (S' := []) (C' := mcX8_next f_fault f_place f_tokens (f_now + 1) (a_kinds (f_now + 1).toNatClampNeg) (a_starts (f_now + 1).toNatClampNeg) (a_values (f_now + 1).toNatClampNeg) f_open f_topic f_trainDue a_kinds a_starts a_values) rfl ⟨xin_ge h1 h3 (by decide), trivial, trivial⟩ ?_
        exact xR_retv K pq_X8_next rfl
    · refine xR_st K pq_X8_next 4 (pc' := 46) (L' := [some (.ref 0), some (.int 0)]) (S' := [.int 0, .ref 0]) (C' := mcX8_next f_fault f_place f_tokens (f_now + 1) f_kind f_start f_value f_open f_topic f_trainDue a_kinds a_starts a_values) rfl trivial ?_
      refine xR_if0 K pq_X8_next rfl ⟨rfl, rfl⟩ (fun _ => ?_) (fun hx => absurd hx (by decide))
      refine xR_st K pq_X8_next 4 (pc' := 67) (L' := [some (.ref 0), some (.int 0)]) (S' := [.int 0, .ref 0]) (C' := mcX8_next f_fault f_place f_tokens (f_now + 1) (0 : Int32) f_start f_value f_open f_topic f_trainDue a_kinds a_starts a_values) rfl ⟨trivial, trivial⟩ ?_
      refine xR_if0 K pq_X8_next rfl ⟨rfl, rfl⟩ (fun _ => ?_) (fun hx => absurd hx (by decide))
      refine xR_st K pq_X8_next 5 (pc' := 91) (L' := [some (.ref 0), some (.int 0)]) (S' := [.int 0, .ref 0]) (C' := mcX8_next f_fault f_place f_tokens (f_now + 1) (0 : Int32) f_start f_value f_open f_topic f_trainDue a_kinds a_starts a_values) rfl ⟨trivial, trivial⟩ ?_
      refine xR_if0 K pq_X8_next rfl ⟨rfl, rfl⟩ (fun _ => ?_) (fun hx => absurd hx (by decide))
      refine xR_st K pq_X8_next 2 (pc' := 110) (L' := [some (.ref 0), some (.int 0)]) (S' := []) (C' := mcX8_next f_fault f_place f_tokens (f_now + 1) (0 : Int32) f_start (0 : Int32) f_open f_topic f_trainDue a_kinds a_starts a_values) rfl ⟨trivial, trivial⟩ ?_
      exact xR_retv K pq_X8_next rfl
def pg_X8_fail : xPg := [(0, .aload_n 0, .null), (1, .getfield 32, .retAddr 803), (4, .ifCond .ne 13, .retAddr 17), (7, .aload_n 0, .null), (8, .iload_n 1, .null), (9, .putfield 32, .retAddr 803), (12, .aload_n 0, .null), (13, .iload_n 2, .null), (14, .putfield 21, .retAddr 804), (17, .return_, .null)]
theorem pq_X8_fail : xPq RX8 cX8_fail tb_X8 pg_X8_fail := ⟨tab_X8, xPok_of (by decide +kernel)⟩
theorem cy_X8_fail : xCy yX8_fail cX8_fail 3 none := ⟨xtb_in (i := 786) (by decide +kernel) rfl, xtb_in (i := 154) (by decide +kernel) rfl, by decide +kernel, by decide +kernel⟩
theorem si_X8_fail : Cond.instanceMethod yX8_fail ∈ xtb ∧ Cond.selects yX8_fail.cls yX8_fail yX8_fail ∈ xtb := ⟨xtb_in (i := 785) (by decide +kernel) rfl, xtb_in (i := 10) (by decide +kernel) rfl⟩
theorem ar_X8_fail : xar yX8_fail 2 := by unfold xar; decide +kernel
def mcX8_fail (f_fault : Int32) (f_place : Int32) (f_tokens : Int32) (f_now : Int32) (f_kind : Int32) (f_start : Int32) (f_value : Int32) (f_open : Int32) (f_topic : Int32) (f_trainDue : Bool) : xC := [(0, .inr (8, [.ref 1, .ref 2, .ref 3, .int f_fault, .int f_place, .ref 4, .int f_tokens, .int f_now, .int f_kind, .int f_start, .int f_value, .int f_open, .int f_topic, .int (xb f_trainDue)]))]
def meX8_fail (f_fault : Int32) (f_place : Int32) (f_tokens : Int32) (f_now : Int32) (f_kind : Int32) (f_start : Int32) (f_value : Int32) (f_open : Int32) (f_topic : Int32) (f_trainDue : Bool) : Int32 × Int32 → xRes := fun r => some (none, mcX8_fail r.1 r.2 f_tokens f_now f_kind f_start f_value f_open f_topic f_trainDue)
def mX8_fail (v_number : Int32) (v_byteAt : Int32) (f_fault : Int32) (f_place : Int32) : Int32 × Int32 :=
  if f_fault = 0 then
    (v_number, v_byteAt)
  else
    (f_fault, f_place)
set_option maxRecDepth 100000 in
set_option maxHeartbeats 1500000 in
theorem kX8_fail (l : Launch) (v_number : Int32) (v_byteAt : Int32) (f_fault : Int32) (f_place : Int32) (f_tokens : Int32) (f_now : Int32) (f_kind : Int32) (f_start : Int32) (f_value : Int32) (f_open : Int32) (f_topic : Int32) (f_trainDue : Bool)  : xMet l 0 yX8_fail cX8_fail 3 none [.ref 0, .int v_number, .int v_byteAt] (mcX8_fail f_fault f_place f_tokens f_now f_kind f_start f_value f_open f_topic f_trainDue) (meX8_fail f_fault f_place f_tokens f_now f_kind f_start f_value f_open f_topic f_trainDue (mX8_fail v_number v_byteAt f_fault f_place)) := by
  refine xMet_of cy_X8_fail [some (.ref 0), some (.int v_number), some (.int v_byteAt)] rfl (Nat.le_of_ble_eq_true rfl) (fun X K => ?_)
  refine xR_st K pq_X8_fail 2 (pc' := 4) (L' := [some (.ref 0), some (.int v_number), some (.int v_byteAt)]) (S' := [.int f_fault]) (C' := mcX8_fail f_fault f_place f_tokens f_now f_kind f_start f_value f_open f_topic f_trainDue) rfl trivial ?_
  refine xR_i0 (enc := meX8_fail f_fault f_place f_tokens f_now f_kind f_start f_value f_open f_topic f_trainDue) (q1 := 7) (q2 := 17) K pq_X8_fail rfl rfl rfl rfl (fun h1 => ?_) (fun h1 => ?_)
  · refine xR_st K pq_X8_fail 6 (pc' := 17) (L' := [some (.ref 0), some (.int v_number), some (.int v_byteAt)]) (S' := []) (C' := mcX8_fail v_number v_byteAt f_tokens f_now f_kind f_start f_value f_open f_topic f_trainDue) rfl ⟨trivial, trivial, trivial⟩ ?_
    exact xR_retv K pq_X8_fail rfl
  · exact xR_retv K pq_X8_fail rfl
def pg_X8_openOne : xPg := [(0, .aload_n 0, .null), (1, .getfield 35, .retAddr 811), (4, .bipush 7, .int 7), (6, .if_icmp .lt 12, .retAddr 18), (9, .aload_n 0, .null), (10, .iconst 5, .int 5), (11, .aload_n 0, .null), (12, .getfield 58, .retAddr 809), (15, .invokevirtual 61, .null), (18, .aload_n 0, .null), (19, .dup, .null), (20, .getfield 35, .retAddr 811), (23, .iconst 1, .int 1), (24, .iadd, .null), (25, .putfield 35, .retAddr 811), (28, .aload_n 0, .null), (29, .invokevirtual 52, .null), (32, .return_, .null)]
theorem pq_X8_openOne : xPq RX8 cX8_openOne tb_X8 pg_X8_openOne := ⟨tab_X8, xPok_of (by decide +kernel)⟩
theorem cy_X8_openOne : xCy yX8_openOne cX8_openOne 1 none := ⟨xtb_in (i := 859) (by decide +kernel) rfl, xtb_in (i := 154) (by decide +kernel) rfl, by decide +kernel, by decide +kernel⟩
theorem si_X8_openOne : Cond.instanceMethod yX8_openOne ∈ xtb ∧ Cond.selects yX8_openOne.cls yX8_openOne yX8_openOne ∈ xtb := ⟨xtb_in (i := 858) (by decide +kernel) rfl, xtb_in (i := 26) (by decide +kernel) rfl⟩
theorem ar_X8_openOne : xar yX8_openOne 0 := by unfold xar; decide +kernel
def mcX8_openOne (f_fault : Int32) (f_place : Int32) (f_tokens : Int32) (f_now : Int32) (f_kind : Int32) (f_start : Int32) (f_value : Int32) (f_open : Int32) (f_topic : Int32) (f_trainDue : Bool) (a_kinds : Nat → Int32) (a_starts : Nat → Int32) (a_values : Nat → Int32) : xC := [(0, .inr (8, [.ref 1, .ref 2, .ref 3, .int f_fault, .int f_place, .ref 4, .int f_tokens, .int f_now, .int f_kind, .int f_start, .int f_value, .int f_open, .int f_topic, .int (xb f_trainDue)])), (1, .inl (0, 1601, .inl a_kinds)), (2, .inl (0, 1601, .inl a_starts)), (3, .inl (0, 1601, .inl a_values))]
def meX8_openOne (f_fault : Int32) (f_place : Int32) (f_tokens : Int32) (f_now : Int32) (f_kind : Int32) (f_start : Int32) (f_value : Int32) (f_open : Int32) (f_topic : Int32) (f_trainDue : Bool) (a_kinds : Nat → Int32) (a_starts : Nat → Int32) (a_values : Nat → Int32) : Int32 × Int32 × Int32 × Int32 × Int32 × Int32 × Int32 → xRes := fun r => some (none, mcX8_openOne r.1 r.2.1 f_tokens r.2.2.1 r.2.2.2.1 r.2.2.2.2.1 r.2.2.2.2.2.1 r.2.2.2.2.2.2 f_topic f_trainDue a_kinds a_starts a_values)
def mX8_openOne_18 (f_tokens : Int32) (f_now : Int32) (f_start : Int32) (f_open : Int32) (a_kinds : Nat → Int32) (a_starts : Nat → Int32) (a_values : Nat → Int32)  (f_fault_18 : Int32) (f_place_18 : Int32) : Int32 × Int32 × Int32 × Int32 × Int32 × Int32 × Int32 :=
  xlet (mX8_next f_tokens f_now f_start a_kinds a_starts a_values) (xu fun q3_1 => xu fun q3_2 => xu fun q3_3 => fun q3_4 =>
    (f_fault_18, f_place_18, q3_1, q3_2, q3_3, q3_4, f_open + 1))
def mX8_openOne (f_fault : Int32) (f_place : Int32) (f_tokens : Int32) (f_now : Int32) (f_start : Int32) (f_open : Int32) (a_kinds : Nat → Int32) (a_starts : Nat → Int32) (a_values : Nat → Int32) : Int32 × Int32 × Int32 × Int32 × Int32 × Int32 × Int32 :=
  if f_open < 7 then
    mX8_openOne_18 f_tokens f_now f_start f_open a_kinds a_starts a_values f_fault f_place
  else
    xlet (mX8_fail (5 : Int32) f_start f_fault f_place) (xu fun q2_1 => fun q2_2 =>
      mX8_openOne_18 f_tokens f_now f_start f_open a_kinds a_starts a_values q2_1 q2_2)
set_option maxRecDepth 100000 in
set_option maxHeartbeats 1500000 in
theorem kX8_openOne (l : Launch) (f_fault : Int32) (f_place : Int32) (f_tokens : Int32) (f_now : Int32) (f_kind : Int32) (f_start : Int32) (f_value : Int32) (f_open : Int32) (f_topic : Int32) (f_trainDue : Bool) (a_kinds : Nat → Int32) (a_starts : Nat → Int32) (a_values : Nat → Int32)  : xMet l 1 yX8_openOne cX8_openOne 1 none [.ref 0] (mcX8_openOne f_fault f_place f_tokens f_now f_kind f_start f_value f_open f_topic f_trainDue a_kinds a_starts a_values) (meX8_openOne f_fault f_place f_tokens f_now f_kind f_start f_value f_open f_topic f_trainDue a_kinds a_starts a_values (mX8_openOne f_fault f_place f_tokens f_now f_start f_open a_kinds a_starts a_values)) := by
  refine xMet_of cy_X8_openOne [some (.ref 0)] rfl (Nat.le_of_ble_eq_true rfl) (fun X K => ?_)
  have J18 : ∀ (f_fault_18 : Int32) (f_place_18 : Int32), xR X (meX8_openOne f_fault f_place f_tokens f_now f_kind f_start f_value f_open f_topic f_trainDue a_kinds a_starts a_values (mX8_openOne_18 f_tokens f_now f_start f_open a_kinds a_starts a_values f_fault_18 f_place_18)) 18 [some (.ref 0)] [] (mcX8_openOne f_fault_18 f_place_18 f_tokens f_now f_kind f_start f_value f_open f_topic f_trainDue a_kinds a_starts a_values) := by
    intro f_fault_18 f_place_18
    refine xR_st K pq_X8_openOne 7 (pc' := 29) (L' := [some (.ref 0)]) (S' := [.ref 0]) (C' := mcX8_openOne f_fault_18 f_place_18 f_tokens f_now f_kind f_start f_value (f_open + 1) f_topic f_trainDue a_kinds a_starts a_values) rfl ⟨trivial, trivial⟩ ?_
    refine xR_let (enc := meX8_openOne f_fault f_place f_tokens f_now f_kind f_start f_value f_open f_topic f_trainDue a_kinds a_starts a_values) (fun q3 hq3 => ?_)
    obtain ⟨q3_1, q3_2, q3_3, q3_4⟩ := q3
    iterate 3 refine xR_u (enc := meX8_openOne f_fault f_place f_tokens f_now f_kind f_start f_value f_open f_topic f_trainDue a_kinds a_starts a_values) ?_
    have hMq3 := kX8_next l f_fault_18 f_place_18 f_tokens f_now f_kind f_start f_value (f_open + 1) f_topic f_trainDue a_kinds a_starts a_values
    rw [← hq3] at hMq3
    refine xR_callV3 K pq_X8_openOne rfl lk_X8_52 cy_X8_next si_X8_next ar_X8_next (rest := []) hMq3 (by decide) (by decide) rfl rfl (S2 := []) (C2 := mcX8_openOne f_fault_18 f_place_18 f_tokens q3_1 q3_2 q3_3 q3_4 (f_open + 1) f_topic f_trainDue a_kinds a_starts a_values) id [0, 1, 2, 3] rfl rfl (Nat.le_of_ble_eq_true rfl) rfl (by decide) rfl rfl rfl ?_
    exact xR_retv K pq_X8_openOne rfl
  refine xR_st K pq_X8_openOne 3 (pc' := 6) (L' := [some (.ref 0)]) (S' := [.int 7, .int f_open]) (C' := mcX8_openOne f_fault f_place f_tokens f_now f_kind f_start f_value f_open f_topic f_trainDue a_kinds a_starts a_values) rfl trivial ?_
  refine xR_i2 (enc := meX8_openOne f_fault f_place f_tokens f_now f_kind f_start f_value f_open f_topic f_trainDue a_kinds a_starts a_values) (q1 := 18) (q2 := 9) K pq_X8_openOne rfl rfl rfl rfl (fun h1 => ?_) (fun h1 => ?_)
  · exact xR_less2 (J18 _ _) ⟨rfl, trivial⟩
  · refine xR_st K pq_X8_openOne 4 (pc' := 15) (L' := [some (.ref 0)]) (S' := [.int f_start, .int 5, .ref 0]) (C' := mcX8_openOne f_fault f_place f_tokens f_now f_kind f_start f_value f_open f_topic f_trainDue a_kinds a_starts a_values) rfl trivial ?_
    refine xR_let (enc := meX8_openOne f_fault f_place f_tokens f_now f_kind f_start f_value f_open f_topic f_trainDue a_kinds a_starts a_values) (fun q2 hq2 => ?_)
    obtain ⟨q2_1, q2_2⟩ := q2
    iterate 1 refine xR_u (enc := meX8_openOne f_fault f_place f_tokens f_now f_kind f_start f_value f_open f_topic f_trainDue a_kinds a_starts a_values) ?_
    have hMq2 := kX8_fail l (5 : Int32) f_start f_fault f_place f_tokens f_now f_kind f_start f_value f_open f_topic f_trainDue
    rw [← hq2] at hMq2
    refine xR_callV3 K pq_X8_openOne rfl lk_X8_61 cy_X8_fail si_X8_fail ar_X8_fail (rest := []) hMq2 (by decide) (by decide) rfl rfl (S2 := []) (C2 := mcX8_openOne q2_1 q2_2 f_tokens f_now f_kind f_start f_value f_open f_topic f_trainDue a_kinds a_starts a_values) id [0] rfl rfl (Nat.le_of_ble_eq_true rfl) rfl (by decide) rfl rfl rfl ?_
    exact xR_less2 (J18 _ _) ⟨rfl, trivial⟩
def pg_X8_signNow : xPg := [(0, .aload_n 0, .null), (1, .getfield 55, .retAddr 808), (4, .iconst 5, .int 5), (5, .if_icmp .ne 10, .retAddr 15), (8, .aload_n 0, .null), (9, .getfield 233, .retAddr 810), (12, .goto 4, .retAddr 16), (15, .iconst (-1), .int (-1)), (16, .ireturn, .null)]
theorem pq_X8_signNow : xPq RX8 cX8_signNow tb_X8 pg_X8_signNow := ⟨tab_X8, xPok_of (by decide +kernel)⟩
theorem cy_X8_signNow : xCy yX8_signNow cX8_signNow 1 (some .int) := ⟨xtb_in (i := 855) (by decide +kernel) rfl, xtb_in (i := 154) (by decide +kernel) rfl, by decide +kernel, by decide +kernel⟩
theorem si_X8_signNow : Cond.instanceMethod yX8_signNow ∈ xtb ∧ Cond.selects yX8_signNow.cls yX8_signNow yX8_signNow ∈ xtb := ⟨xtb_in (i := 854) (by decide +kernel) rfl, xtb_in (i := 25) (by decide +kernel) rfl⟩
theorem ar_X8_signNow : xar yX8_signNow 0 := by unfold xar; decide +kernel
def mcX8_signNow (f_fault : Int32) (f_place : Int32) (f_tokens : Int32) (f_now : Int32) (f_kind : Int32) (f_start : Int32) (f_value : Int32) (f_open : Int32) (f_topic : Int32) (f_trainDue : Bool) : xC := [(0, .inr (8, [.ref 1, .ref 2, .ref 3, .int f_fault, .int f_place, .ref 4, .int f_tokens, .int f_now, .int f_kind, .int f_start, .int f_value, .int f_open, .int f_topic, .int (xb f_trainDue)]))]
def meX8_signNow (f_fault : Int32) (f_place : Int32) (f_tokens : Int32) (f_now : Int32) (f_kind : Int32) (f_start : Int32) (f_value : Int32) (f_open : Int32) (f_topic : Int32) (f_trainDue : Bool) : Int32 → xRes := fun r => some (some (.int r), mcX8_signNow f_fault f_place f_tokens f_now f_kind f_start f_value f_open f_topic f_trainDue)
def mX8_signNow (f_kind : Int32) (f_value : Int32) : Int32 :=
  if f_kind = 5 then
    f_value
  else
    ((-1) : Int32)
set_option maxRecDepth 100000 in
set_option maxHeartbeats 1500000 in
theorem kX8_signNow (l : Launch) (f_fault : Int32) (f_place : Int32) (f_tokens : Int32) (f_now : Int32) (f_kind : Int32) (f_start : Int32) (f_value : Int32) (f_open : Int32) (f_topic : Int32) (f_trainDue : Bool)  : xMet l 0 yX8_signNow cX8_signNow 1 (some .int) [.ref 0] (mcX8_signNow f_fault f_place f_tokens f_now f_kind f_start f_value f_open f_topic f_trainDue) (meX8_signNow f_fault f_place f_tokens f_now f_kind f_start f_value f_open f_topic f_trainDue (mX8_signNow f_kind f_value)) := by
  refine xMet_of cy_X8_signNow [some (.ref 0)] rfl (Nat.le_of_ble_eq_true rfl) (fun X K => ?_)
  refine xR_st K pq_X8_signNow 3 (pc' := 5) (L' := [some (.ref 0)]) (S' := [.int 5, .int f_kind]) (C' := mcX8_signNow f_fault f_place f_tokens f_now f_kind f_start f_value f_open f_topic f_trainDue) rfl trivial ?_
  refine xR_i2 (enc := meX8_signNow f_fault f_place f_tokens f_now f_kind f_start f_value f_open f_topic f_trainDue) (q1 := 8) (q2 := 15) K pq_X8_signNow rfl rfl rfl rfl (fun h1 => ?_) (fun h1 => ?_)
  · refine xR_st K pq_X8_signNow 3 (pc' := 16) (L' := [some (.ref 0)]) (S' := [.int f_value]) (C' := mcX8_signNow f_fault f_place f_tokens f_now f_kind f_start f_value f_open f_topic f_trainDue) rfl trivial ?_
    exact xR_ret K pq_X8_signNow rfl
  · refine xR_st K pq_X8_signNow 1 (pc' := 16) (L' := [some (.ref 0)]) (S' := [.int (-1)]) (C' := mcX8_signNow f_fault f_place f_tokens f_now f_kind f_start f_value f_open f_topic f_trainDue) rfl trivial ?_
    exact xR_ret K pq_X8_signNow rfl
def pg_X8_where : xPg := [(0, .aload_n 0, .null), (1, .getfield 55, .retAddr 808), (4, .iconst 1, .int 1), (5, .if_icmp .ne 10, .retAddr 15), (8, .aload_n 0, .null), (9, .getfield 233, .retAddr 810), (12, .goto 7, .retAddr 19), (15, .aload_n 0, .null), (16, .getfield 58, .retAddr 809), (19, .ireturn, .null)]
theorem pq_X8_where : xPq RX8 cX8_where tb_X8 pg_X8_where := ⟨tab_X8, xPok_of (by decide +kernel)⟩
theorem cy_X8_where : xCy yX8_where cX8_where 1 (some .int) := ⟨xtb_in (i := 798) (by decide +kernel) rfl, xtb_in (i := 154) (by decide +kernel) rfl, by decide +kernel, by decide +kernel⟩
theorem si_X8_where : Cond.instanceMethod yX8_where ∈ xtb ∧ Cond.selects yX8_where.cls yX8_where yX8_where ∈ xtb := ⟨xtb_in (i := 797) (by decide +kernel) rfl, xtb_in (i := 13) (by decide +kernel) rfl⟩
theorem ar_X8_where : xar yX8_where 0 := by unfold xar; decide +kernel
def mcX8_where (f_fault : Int32) (f_place : Int32) (f_tokens : Int32) (f_now : Int32) (f_kind : Int32) (f_start : Int32) (f_value : Int32) (f_open : Int32) (f_topic : Int32) (f_trainDue : Bool) : xC := [(0, .inr (8, [.ref 1, .ref 2, .ref 3, .int f_fault, .int f_place, .ref 4, .int f_tokens, .int f_now, .int f_kind, .int f_start, .int f_value, .int f_open, .int f_topic, .int (xb f_trainDue)]))]
def meX8_where (f_fault : Int32) (f_place : Int32) (f_tokens : Int32) (f_now : Int32) (f_kind : Int32) (f_start : Int32) (f_value : Int32) (f_open : Int32) (f_topic : Int32) (f_trainDue : Bool) : Int32 → xRes := fun r => some (some (.int r), mcX8_where f_fault f_place f_tokens f_now f_kind f_start f_value f_open f_topic f_trainDue)
def mX8_where (f_kind : Int32) (f_start : Int32) (f_value : Int32) : Int32 :=
  if f_kind = 1 then
    f_value
  else
    f_start
set_option maxRecDepth 100000 in
set_option maxHeartbeats 1500000 in
theorem kX8_where (l : Launch) (f_fault : Int32) (f_place : Int32) (f_tokens : Int32) (f_now : Int32) (f_kind : Int32) (f_start : Int32) (f_value : Int32) (f_open : Int32) (f_topic : Int32) (f_trainDue : Bool)  : xMet l 0 yX8_where cX8_where 1 (some .int) [.ref 0] (mcX8_where f_fault f_place f_tokens f_now f_kind f_start f_value f_open f_topic f_trainDue) (meX8_where f_fault f_place f_tokens f_now f_kind f_start f_value f_open f_topic f_trainDue (mX8_where f_kind f_start f_value)) := by
  refine xMet_of cy_X8_where [some (.ref 0)] rfl (Nat.le_of_ble_eq_true rfl) (fun X K => ?_)
  refine xR_st K pq_X8_where 3 (pc' := 5) (L' := [some (.ref 0)]) (S' := [.int 1, .int f_kind]) (C' := mcX8_where f_fault f_place f_tokens f_now f_kind f_start f_value f_open f_topic f_trainDue) rfl trivial ?_
  refine xR_i2 (enc := meX8_where f_fault f_place f_tokens f_now f_kind f_start f_value f_open f_topic f_trainDue) (q1 := 8) (q2 := 15) K pq_X8_where rfl rfl rfl rfl (fun h1 => ?_) (fun h1 => ?_)
  · refine xR_st K pq_X8_where 3 (pc' := 19) (L' := [some (.ref 0)]) (S' := [.int f_value]) (C' := mcX8_where f_fault f_place f_tokens f_now f_kind f_start f_value f_open f_topic f_trainDue) rfl trivial ?_
    exact xR_ret K pq_X8_where rfl
  · refine xR_st K pq_X8_where 2 (pc' := 19) (L' := [some (.ref 0)]) (S' := [.int f_start]) (C' := mcX8_where f_fault f_place f_tokens f_now f_kind f_start f_value f_open f_topic f_trainDue) rfl trivial ?_
    exact xR_ret K pq_X8_where rfl
def pg_X8_sign : xPg := [(0, .aload_n 0, .null), (1, .invokevirtual 218, .null), (4, .iload_n 1, .null), (5, .if_icmp .eq 12, .retAddr 17), (8, .aload_n 0, .null), (9, .iconst 1, .int 1), (10, .aload_n 0, .null), (11, .invokevirtual 125, .null), (14, .invokevirtual 61, .null), (17, .aload_n 0, .null), (18, .invokevirtual 52, .null), (21, .return_, .null)]
theorem pq_X8_sign : xPq RX8 cX8_sign tb_X8 pg_X8_sign := ⟨tab_X8, xPok_of (by decide +kernel)⟩
theorem cy_X8_sign : xCy yX8_sign cX8_sign 2 none := ⟨xtb_in (i := 863) (by decide +kernel) rfl, xtb_in (i := 154) (by decide +kernel) rfl, by decide +kernel, by decide +kernel⟩
theorem si_X8_sign : Cond.instanceMethod yX8_sign ∈ xtb ∧ Cond.selects yX8_sign.cls yX8_sign yX8_sign ∈ xtb := ⟨xtb_in (i := 862) (by decide +kernel) rfl, xtb_in (i := 27) (by decide +kernel) rfl⟩
theorem ar_X8_sign : xar yX8_sign 1 := by unfold xar; decide +kernel
def mcX8_sign (f_fault : Int32) (f_place : Int32) (f_tokens : Int32) (f_now : Int32) (f_kind : Int32) (f_start : Int32) (f_value : Int32) (f_open : Int32) (f_topic : Int32) (f_trainDue : Bool) (a_kinds : Nat → Int32) (a_starts : Nat → Int32) (a_values : Nat → Int32) : xC := [(0, .inr (8, [.ref 1, .ref 2, .ref 3, .int f_fault, .int f_place, .ref 4, .int f_tokens, .int f_now, .int f_kind, .int f_start, .int f_value, .int f_open, .int f_topic, .int (xb f_trainDue)])), (1, .inl (0, 1601, .inl a_kinds)), (2, .inl (0, 1601, .inl a_starts)), (3, .inl (0, 1601, .inl a_values))]
def meX8_sign (f_fault : Int32) (f_place : Int32) (f_tokens : Int32) (f_now : Int32) (f_kind : Int32) (f_start : Int32) (f_value : Int32) (f_open : Int32) (f_topic : Int32) (f_trainDue : Bool) (a_kinds : Nat → Int32) (a_starts : Nat → Int32) (a_values : Nat → Int32) : Int32 × Int32 × Int32 × Int32 × Int32 × Int32 → xRes := fun r => some (none, mcX8_sign r.1 r.2.1 f_tokens r.2.2.1 r.2.2.2.1 r.2.2.2.2.1 r.2.2.2.2.2 f_open f_topic f_trainDue a_kinds a_starts a_values)
def mX8_sign (v_c : Int32) (f_fault : Int32) (f_place : Int32) (f_tokens : Int32) (f_now : Int32) (f_kind : Int32) (f_start : Int32) (f_value : Int32) (a_kinds : Nat → Int32) (a_starts : Nat → Int32) (a_values : Nat → Int32) : Int32 × Int32 × Int32 × Int32 × Int32 × Int32 :=
  if (mX8_signNow f_kind f_value) = v_c then
    xlet (mX8_next f_tokens f_now f_start a_kinds a_starts a_values) (xu fun q2_1 => xu fun q2_2 => xu fun q2_3 => fun q2_4 =>
      (f_fault, f_place, q2_1, q2_2, q2_3, q2_4))
  else
    xlet (mX8_fail (1 : Int32) (mX8_where f_kind f_start f_value) f_fault f_place) (xu fun q3_1 => fun q3_2 =>
      xlet (mX8_next f_tokens f_now f_start a_kinds a_starts a_values) (xu fun q4_1 => xu fun q4_2 => xu fun q4_3 => fun q4_4 =>
        (q3_1, q3_2, q4_1, q4_2, q4_3, q4_4)))
set_option maxRecDepth 100000 in
set_option maxHeartbeats 1500000 in
theorem kX8_sign (l : Launch) (v_c : Int32) (f_fault : Int32) (f_place : Int32) (f_tokens : Int32) (f_now : Int32) (f_kind : Int32) (f_start : Int32) (f_value : Int32) (f_open : Int32) (f_topic : Int32) (f_trainDue : Bool) (a_kinds : Nat → Int32) (a_starts : Nat → Int32) (a_values : Nat → Int32)  : xMet l 1 yX8_sign cX8_sign 2 none [.ref 0, .int v_c] (mcX8_sign f_fault f_place f_tokens f_now f_kind f_start f_value f_open f_topic f_trainDue a_kinds a_starts a_values) (meX8_sign f_fault f_place f_tokens f_now f_kind f_start f_value f_open f_topic f_trainDue a_kinds a_starts a_values (mX8_sign v_c f_fault f_place f_tokens f_now f_kind f_start f_value a_kinds a_starts a_values)) := by
  refine xMet_of cy_X8_sign [some (.ref 0), some (.int v_c)] rfl (Nat.le_of_ble_eq_true rfl) (fun X K => ?_)
  refine xR_st K pq_X8_sign 1 (pc' := 1) (L' := [some (.ref 0), some (.int v_c)]) (S' := [.ref 0]) (C' := mcX8_sign f_fault f_place f_tokens f_now f_kind f_start f_value f_open f_topic f_trainDue a_kinds a_starts a_values) rfl trivial ?_
  refine xR_callV3 K pq_X8_sign rfl lk_X8_218 cy_X8_signNow si_X8_signNow ar_X8_signNow (rest := []) (kX8_signNow l f_fault f_place f_tokens f_now f_kind f_start f_value f_open f_topic f_trainDue) (by decide) (by decide) rfl rfl (S2 := [.int (mX8_signNow f_kind f_value)]) (C2 := mcX8_sign f_fault f_place f_tokens f_now f_kind f_start f_value f_open f_topic f_trainDue a_kinds a_starts a_values) id [0] rfl rfl (Nat.le_of_ble_eq_true rfl) rfl (by decide) rfl rfl rfl ?_
  refine xR_st K pq_X8_sign 1 (pc' := 5) (L' := [some (.ref 0), some (.int v_c)]) (S' := [.int v_c, .int (mX8_signNow f_kind f_value)]) (C' := mcX8_sign f_fault f_place f_tokens f_now f_kind f_start f_value f_open f_topic f_trainDue a_kinds a_starts a_values) rfl trivial ?_
  refine xR_i2 (enc := meX8_sign f_fault f_place f_tokens f_now f_kind f_start f_value f_open f_topic f_trainDue a_kinds a_starts a_values) (q1 := 17) (q2 := 8) K pq_X8_sign rfl rfl rfl rfl (fun h1 => ?_) (fun h1 => ?_)
  · refine xR_st K pq_X8_sign 1 (pc' := 18) (L' := [some (.ref 0), some (.int v_c)]) (S' := [.ref 0]) (C' := mcX8_sign f_fault f_place f_tokens f_now f_kind f_start f_value f_open f_topic f_trainDue a_kinds a_starts a_values) rfl trivial ?_
    refine xR_let (enc := meX8_sign f_fault f_place f_tokens f_now f_kind f_start f_value f_open f_topic f_trainDue a_kinds a_starts a_values) (fun q2 hq2 => ?_)
    obtain ⟨q2_1, q2_2, q2_3, q2_4⟩ := q2
    iterate 3 refine xR_u (enc := meX8_sign f_fault f_place f_tokens f_now f_kind f_start f_value f_open f_topic f_trainDue a_kinds a_starts a_values) ?_
    have hMq2 := kX8_next l f_fault f_place f_tokens f_now f_kind f_start f_value f_open f_topic f_trainDue a_kinds a_starts a_values
    rw [← hq2] at hMq2
    refine xR_callV3 K pq_X8_sign rfl lk_X8_52 cy_X8_next si_X8_next ar_X8_next (rest := []) hMq2 (by decide) (by decide) rfl rfl (S2 := []) (C2 := mcX8_sign f_fault f_place f_tokens q2_1 q2_2 q2_3 q2_4 f_open f_topic f_trainDue a_kinds a_starts a_values) id [0, 1, 2, 3] rfl rfl (Nat.le_of_ble_eq_true rfl) rfl (by decide) rfl rfl rfl ?_
    exact xR_retv K pq_X8_sign rfl
  · refine xR_st K pq_X8_sign 3 (pc' := 11) (L' := [some (.ref 0), some (.int v_c)]) (S' := [.ref 0, .int 1, .ref 0]) (C' := mcX8_sign f_fault f_place f_tokens f_now f_kind f_start f_value f_open f_topic f_trainDue a_kinds a_starts a_values) rfl trivial ?_
    refine xR_callV3 K pq_X8_sign rfl lk_X8_125 cy_X8_where si_X8_where ar_X8_where (rest := [.int 1, .ref 0]) (kX8_where l f_fault f_place f_tokens f_now f_kind f_start f_value f_open f_topic f_trainDue) (by decide) (by decide) rfl rfl (S2 := [.int (mX8_where f_kind f_start f_value), .int 1, .ref 0]) (C2 := mcX8_sign f_fault f_place f_tokens f_now f_kind f_start f_value f_open f_topic f_trainDue a_kinds a_starts a_values) id [0] rfl rfl (Nat.le_of_ble_eq_true rfl) rfl (by decide) rfl rfl rfl ?_
    refine xR_let (enc := meX8_sign f_fault f_place f_tokens f_now f_kind f_start f_value f_open f_topic f_trainDue a_kinds a_starts a_values) (fun q3 hq3 => ?_)
    obtain ⟨q3_1, q3_2⟩ := q3
    iterate 1 refine xR_u (enc := meX8_sign f_fault f_place f_tokens f_now f_kind f_start f_value f_open f_topic f_trainDue a_kinds a_starts a_values) ?_
    have hMq3 := kX8_fail l (1 : Int32) (mX8_where f_kind f_start f_value) f_fault f_place f_tokens f_now f_kind f_start f_value f_open f_topic f_trainDue
    rw [← hq3] at hMq3
    refine xR_callV3 K pq_X8_sign rfl lk_X8_61 cy_X8_fail si_X8_fail ar_X8_fail (rest := []) hMq3 (by decide) (by decide) rfl rfl (S2 := []) (C2 := mcX8_sign q3_1 q3_2 f_tokens f_now f_kind f_start f_value f_open f_topic f_trainDue a_kinds a_starts a_values) id [0] rfl rfl (Nat.le_of_ble_eq_true rfl) rfl (by decide) rfl rfl rfl ?_
    refine xR_st K pq_X8_sign 1 (pc' := 18) (L' := [some (.ref 0), some (.int v_c)]) (S' := [.ref 0]) (C' := mcX8_sign q3_1 q3_2 f_tokens f_now f_kind f_start f_value f_open f_topic f_trainDue a_kinds a_starts a_values) rfl trivial ?_
    refine xR_let (enc := meX8_sign f_fault f_place f_tokens f_now f_kind f_start f_value f_open f_topic f_trainDue a_kinds a_starts a_values) (fun q4 hq4 => ?_)
    obtain ⟨q4_1, q4_2, q4_3, q4_4⟩ := q4
    iterate 3 refine xR_u (enc := meX8_sign f_fault f_place f_tokens f_now f_kind f_start f_value f_open f_topic f_trainDue a_kinds a_starts a_values) ?_
    have hMq4 := kX8_next l q3_1 q3_2 f_tokens f_now f_kind f_start f_value f_open f_topic f_trainDue a_kinds a_starts a_values
    rw [← hq4] at hMq4
    refine xR_callV3 K pq_X8_sign rfl lk_X8_52 cy_X8_next si_X8_next ar_X8_next (rest := []) hMq4 (by decide) (by decide) rfl rfl (S2 := []) (C2 := mcX8_sign q3_1 q3_2 f_tokens q4_1 q4_2 q4_3 q4_4 f_open f_topic f_trainDue a_kinds a_starts a_values) id [0, 1, 2, 3] rfl rfl (Nat.le_of_ble_eq_true rfl) rfl (by decide) rfl rfl rfl ?_
    exact xR_retv K pq_X8_sign rfl
def pg_X8_ownNow : xPg := [(0, .aload_n 0, .null), (1, .getfield 55, .retAddr 808), (4, .iconst 4, .int 4), (5, .if_icmp .ne 10, .retAddr 15), (8, .aload_n 0, .null), (9, .getfield 233, .retAddr 810), (12, .goto 4, .retAddr 16), (15, .iconst (-1), .int (-1)), (16, .ireturn, .null)]
theorem pq_X8_ownNow : xPq RX8 cX8_ownNow tb_X8 pg_X8_ownNow := ⟨tab_X8, xPok_of (by decide +kernel)⟩
theorem cy_X8_ownNow : xCy yX8_ownNow cX8_ownNow 1 (some .int) := ⟨xtb_in (i := 794) (by decide +kernel) rfl, xtb_in (i := 154) (by decide +kernel) rfl, by decide +kernel, by decide +kernel⟩
theorem si_X8_ownNow : Cond.instanceMethod yX8_ownNow ∈ xtb ∧ Cond.selects yX8_ownNow.cls yX8_ownNow yX8_ownNow ∈ xtb := ⟨xtb_in (i := 793) (by decide +kernel) rfl, xtb_in (i := 12) (by decide +kernel) rfl⟩
theorem ar_X8_ownNow : xar yX8_ownNow 0 := by unfold xar; decide +kernel
def mcX8_ownNow (f_fault : Int32) (f_place : Int32) (f_tokens : Int32) (f_now : Int32) (f_kind : Int32) (f_start : Int32) (f_value : Int32) (f_open : Int32) (f_topic : Int32) (f_trainDue : Bool) : xC := [(0, .inr (8, [.ref 1, .ref 2, .ref 3, .int f_fault, .int f_place, .ref 4, .int f_tokens, .int f_now, .int f_kind, .int f_start, .int f_value, .int f_open, .int f_topic, .int (xb f_trainDue)]))]
def meX8_ownNow (f_fault : Int32) (f_place : Int32) (f_tokens : Int32) (f_now : Int32) (f_kind : Int32) (f_start : Int32) (f_value : Int32) (f_open : Int32) (f_topic : Int32) (f_trainDue : Bool) : Int32 → xRes := fun r => some (some (.int r), mcX8_ownNow f_fault f_place f_tokens f_now f_kind f_start f_value f_open f_topic f_trainDue)
def mX8_ownNow (f_kind : Int32) (f_value : Int32) : Int32 :=
  if f_kind = 4 then
    f_value
  else
    ((-1) : Int32)
set_option maxRecDepth 100000 in
set_option maxHeartbeats 1500000 in
theorem kX8_ownNow (l : Launch) (f_fault : Int32) (f_place : Int32) (f_tokens : Int32) (f_now : Int32) (f_kind : Int32) (f_start : Int32) (f_value : Int32) (f_open : Int32) (f_topic : Int32) (f_trainDue : Bool)  : xMet l 0 yX8_ownNow cX8_ownNow 1 (some .int) [.ref 0] (mcX8_ownNow f_fault f_place f_tokens f_now f_kind f_start f_value f_open f_topic f_trainDue) (meX8_ownNow f_fault f_place f_tokens f_now f_kind f_start f_value f_open f_topic f_trainDue (mX8_ownNow f_kind f_value)) := by
  refine xMet_of cy_X8_ownNow [some (.ref 0)] rfl (Nat.le_of_ble_eq_true rfl) (fun X K => ?_)
  refine xR_st K pq_X8_ownNow 3 (pc' := 5) (L' := [some (.ref 0)]) (S' := [.int 4, .int f_kind]) (C' := mcX8_ownNow f_fault f_place f_tokens f_now f_kind f_start f_value f_open f_topic f_trainDue) rfl trivial ?_
  refine xR_i2 (enc := meX8_ownNow f_fault f_place f_tokens f_now f_kind f_start f_value f_open f_topic f_trainDue) (q1 := 8) (q2 := 15) K pq_X8_ownNow rfl rfl rfl rfl (fun h1 => ?_) (fun h1 => ?_)
  · refine xR_st K pq_X8_ownNow 3 (pc' := 16) (L' := [some (.ref 0)]) (S' := [.int f_value]) (C' := mcX8_ownNow f_fault f_place f_tokens f_now f_kind f_start f_value f_open f_topic f_trainDue) rfl trivial ?_
    exact xR_ret K pq_X8_ownNow rfl
  · refine xR_st K pq_X8_ownNow 1 (pc' := 16) (L' := [some (.ref 0)]) (S' := [.int (-1)]) (C' := mcX8_ownNow f_fault f_place f_tokens f_now f_kind f_start f_value f_open f_topic f_trainDue) rfl trivial ?_
    exact xR_ret K pq_X8_ownNow rfl
def pg_X8_compareNow : xPg := [(0, .aload_n 0, .null), (1, .invokevirtual 218, .null), (32, .bipush (-17), .int (-17)), (34, .ireturn, .null), (35, .bipush (-18), .int (-18)), (37, .ireturn, .null), (38, .bipush (-19), .int (-19)), (40, .ireturn, .null), (41, .iconst 0, .int 0), (42, .ireturn, .null)]
theorem pq_X8_compareNow : xPq RX8 cX8_compareNow tb_X8 pg_X8_compareNow := ⟨tab_X8, xPok_of (by decide +kernel)⟩
theorem cy_X8_compareNow : xCy yX8_compareNow cX8_compareNow 1 (some .int) := ⟨xtb_in (i := 879) (by decide +kernel) rfl, xtb_in (i := 154) (by decide +kernel) rfl, by decide +kernel, by decide +kernel⟩
theorem si_X8_compareNow : Cond.instanceMethod yX8_compareNow ∈ xtb ∧ Cond.selects yX8_compareNow.cls yX8_compareNow yX8_compareNow ∈ xtb := ⟨xtb_in (i := 878) (by decide +kernel) rfl, xtb_in (i := 31) (by decide +kernel) rfl⟩
theorem dswX8_compareNow_4 : decode cX8_compareNow 4 = .ok (.tableswitch 37 60 62 #[28, 34, 31], 28) := by decide +kernel
theorem ar_X8_compareNow : xar yX8_compareNow 0 := by unfold xar; decide +kernel
def mcX8_compareNow (f_fault : Int32) (f_place : Int32) (f_tokens : Int32) (f_now : Int32) (f_kind : Int32) (f_start : Int32) (f_value : Int32) (f_open : Int32) (f_topic : Int32) (f_trainDue : Bool) : xC := [(0, .inr (8, [.ref 1, .ref 2, .ref 3, .int f_fault, .int f_place, .ref 4, .int f_tokens, .int f_now, .int f_kind, .int f_start, .int f_value, .int f_open, .int f_topic, .int (xb f_trainDue)]))]
def meX8_compareNow (f_fault : Int32) (f_place : Int32) (f_tokens : Int32) (f_now : Int32) (f_kind : Int32) (f_start : Int32) (f_value : Int32) (f_open : Int32) (f_topic : Int32) (f_trainDue : Bool) : Int32 → xRes := fun r => some (some (.int r), mcX8_compareNow f_fault f_place f_tokens f_now f_kind f_start f_value f_open f_topic f_trainDue)
def mX8_compareNow (f_kind : Int32) (f_value : Int32) : Int32 :=
  if (mX8_signNow f_kind f_value) = 60 then
    ((-17) : Int32)
  else if (mX8_signNow f_kind f_value) = 61 then
    ((-19) : Int32)
  else if (mX8_signNow f_kind f_value) = 62 then
    ((-18) : Int32)
  else 
    (0 : Int32)
set_option maxRecDepth 100000 in
set_option maxHeartbeats 1500000 in
theorem kX8_compareNow (l : Launch) (f_fault : Int32) (f_place : Int32) (f_tokens : Int32) (f_now : Int32) (f_kind : Int32) (f_start : Int32) (f_value : Int32) (f_open : Int32) (f_topic : Int32) (f_trainDue : Bool)  : xMet l 1 yX8_compareNow cX8_compareNow 1 (some .int) [.ref 0] (mcX8_compareNow f_fault f_place f_tokens f_now f_kind f_start f_value f_open f_topic f_trainDue) (meX8_compareNow f_fault f_place f_tokens f_now f_kind f_start f_value f_open f_topic f_trainDue (mX8_compareNow f_kind f_value)) := by
  refine xMet_of cy_X8_compareNow [some (.ref 0)] rfl (Nat.le_of_ble_eq_true rfl) (fun X K => ?_)
  refine xR_st K pq_X8_compareNow 1 (pc' := 1) (L' := [some (.ref 0)]) (S' := [.ref 0]) (C' := mcX8_compareNow f_fault f_place f_tokens f_now f_kind f_start f_value f_open f_topic f_trainDue) rfl trivial ?_
  refine xR_callV3 K pq_X8_compareNow rfl lk_X8_218 cy_X8_signNow si_X8_signNow ar_X8_signNow (rest := []) (kX8_signNow l f_fault f_place f_tokens f_now f_kind f_start f_value f_open f_topic f_trainDue) (by decide) (by decide) rfl rfl (S2 := [.int (mX8_signNow f_kind f_value)]) (C2 := mcX8_compareNow f_fault f_place f_tokens f_now f_kind f_start f_value f_open f_topic f_trainDue) id [0] rfl rfl (Nat.le_of_ble_eq_true rfl) rfl (by decide) rfl rfl rfl ?_
  refine xR_tsw K [(60, 32), (61, 38), (62, 35)] 41 dswX8_compareNow_4 (by decide +kernel) (by decide +kernel) ?_
  refine xsw_c (enc := meX8_compareNow f_fault f_place f_tokens f_now f_kind f_start f_value f_open f_topic f_trainDue) (fun h1 => ?_) (fun h2 => ?_)
  · refine xR_st K pq_X8_compareNow 1 (pc' := 34) (L' := [some (.ref 0)]) (S' := [.int (-17)]) (C' := mcX8_compareNow f_fault f_place f_tokens f_now f_kind f_start f_value f_open f_topic f_trainDue) rfl trivial ?_
    exact xR_ret K pq_X8_compareNow rfl
  refine xsw_c (enc := meX8_compareNow f_fault f_place f_tokens f_now f_kind f_start f_value f_open f_topic f_trainDue) (fun h3 => ?_) (fun h4 => ?_)
  · refine xR_st K pq_X8_compareNow 1 (pc' := 40) (L' := [some (.ref 0)]) (S' := [.int (-19)]) (C' := mcX8_compareNow f_fault f_place f_tokens f_now f_kind f_start f_value f_open f_topic f_trainDue) rfl trivial ?_
    exact xR_ret K pq_X8_compareNow rfl
  refine xsw_c (enc := meX8_compareNow f_fault f_place f_tokens f_now f_kind f_start f_value f_open f_topic f_trainDue) (fun h5 => ?_) (fun h6 => ?_)
  · refine xR_st K pq_X8_compareNow 1 (pc' := 37) (L' := [some (.ref 0)]) (S' := [.int (-18)]) (C' := mcX8_compareNow f_fault f_place f_tokens f_now f_kind f_start f_value f_open f_topic f_trainDue) rfl trivial ?_
    exact xR_ret K pq_X8_compareNow rfl
  refine xsw_d ?_
  refine xR_st K pq_X8_compareNow 1 (pc' := 42) (L' := [some (.ref 0)]) (S' := [.int 0]) (C' := mcX8_compareNow f_fault f_place f_tokens f_now f_kind f_start f_value f_open f_topic f_trainDue) rfl trivial ?_
  exact xR_ret K pq_X8_compareNow rfl
def pg_X8_productNow : xPg := [(0, .aload_n 0, .null), (1, .invokevirtual 218, .null), (40, .bipush (-12), .int (-12)), (42, .ireturn, .null), (43, .bipush (-13), .int (-13)), (45, .ireturn, .null), (46, .bipush (-14), .int (-14)), (48, .ireturn, .null), (49, .iconst 0, .int 0), (50, .ireturn, .null)]
theorem pq_X8_productNow : xPq RX8 cX8_productNow tb_X8 pg_X8_productNow := ⟨tab_X8, xPok_of (by decide +kernel)⟩
theorem cy_X8_productNow : xCy yX8_productNow cX8_productNow 1 (some .int) := ⟨xtb_in (i := 883) (by decide +kernel) rfl, xtb_in (i := 154) (by decide +kernel) rfl, by decide +kernel, by decide +kernel⟩
theorem si_X8_productNow : Cond.instanceMethod yX8_productNow ∈ xtb ∧ Cond.selects yX8_productNow.cls yX8_productNow yX8_productNow ∈ xtb := ⟨xtb_in (i := 882) (by decide +kernel) rfl, xtb_in (i := 32) (by decide +kernel) rfl⟩
theorem dswX8_productNow_4 : decode cX8_productNow 4 = .ok (.lookupswitch 45 #[(37, 42), (42, 36), (47, 39)], 36) := by decide +kernel
theorem ar_X8_productNow : xar yX8_productNow 0 := by unfold xar; decide +kernel
def mcX8_productNow (f_fault : Int32) (f_place : Int32) (f_tokens : Int32) (f_now : Int32) (f_kind : Int32) (f_start : Int32) (f_value : Int32) (f_open : Int32) (f_topic : Int32) (f_trainDue : Bool) : xC := [(0, .inr (8, [.ref 1, .ref 2, .ref 3, .int f_fault, .int f_place, .ref 4, .int f_tokens, .int f_now, .int f_kind, .int f_start, .int f_value, .int f_open, .int f_topic, .int (xb f_trainDue)]))]
def meX8_productNow (f_fault : Int32) (f_place : Int32) (f_tokens : Int32) (f_now : Int32) (f_kind : Int32) (f_start : Int32) (f_value : Int32) (f_open : Int32) (f_topic : Int32) (f_trainDue : Bool) : Int32 → xRes := fun r => some (some (.int r), mcX8_productNow f_fault f_place f_tokens f_now f_kind f_start f_value f_open f_topic f_trainDue)
def mX8_productNow (f_kind : Int32) (f_value : Int32) : Int32 :=
  if (mX8_signNow f_kind f_value) = 37 then
    ((-14) : Int32)
  else if (mX8_signNow f_kind f_value) = 42 then
    ((-12) : Int32)
  else if (mX8_signNow f_kind f_value) = 47 then
    ((-13) : Int32)
  else 
    (0 : Int32)
set_option maxRecDepth 100000 in
set_option maxHeartbeats 1500000 in
theorem kX8_productNow (l : Launch) (f_fault : Int32) (f_place : Int32) (f_tokens : Int32) (f_now : Int32) (f_kind : Int32) (f_start : Int32) (f_value : Int32) (f_open : Int32) (f_topic : Int32) (f_trainDue : Bool)  : xMet l 1 yX8_productNow cX8_productNow 1 (some .int) [.ref 0] (mcX8_productNow f_fault f_place f_tokens f_now f_kind f_start f_value f_open f_topic f_trainDue) (meX8_productNow f_fault f_place f_tokens f_now f_kind f_start f_value f_open f_topic f_trainDue (mX8_productNow f_kind f_value)) := by
  refine xMet_of cy_X8_productNow [some (.ref 0)] rfl (Nat.le_of_ble_eq_true rfl) (fun X K => ?_)
  refine xR_st K pq_X8_productNow 1 (pc' := 1) (L' := [some (.ref 0)]) (S' := [.ref 0]) (C' := mcX8_productNow f_fault f_place f_tokens f_now f_kind f_start f_value f_open f_topic f_trainDue) rfl trivial ?_
  refine xR_callV3 K pq_X8_productNow rfl lk_X8_218 cy_X8_signNow si_X8_signNow ar_X8_signNow (rest := []) (kX8_signNow l f_fault f_place f_tokens f_now f_kind f_start f_value f_open f_topic f_trainDue) (by decide) (by decide) rfl rfl (S2 := [.int (mX8_signNow f_kind f_value)]) (C2 := mcX8_productNow f_fault f_place f_tokens f_now f_kind f_start f_value f_open f_topic f_trainDue) id [0] rfl rfl (Nat.le_of_ble_eq_true rfl) rfl (by decide) rfl rfl rfl ?_
  refine xR_lsw K [(37, 46), (42, 40), (47, 43)] 49 dswX8_productNow_4 (by decide +kernel) (by decide +kernel) ?_
  refine xsw_c (enc := meX8_productNow f_fault f_place f_tokens f_now f_kind f_start f_value f_open f_topic f_trainDue) (fun h1 => ?_) (fun h2 => ?_)
  · refine xR_st K pq_X8_productNow 1 (pc' := 48) (L' := [some (.ref 0)]) (S' := [.int (-14)]) (C' := mcX8_productNow f_fault f_place f_tokens f_now f_kind f_start f_value f_open f_topic f_trainDue) rfl trivial ?_
    exact xR_ret K pq_X8_productNow rfl
  refine xsw_c (enc := meX8_productNow f_fault f_place f_tokens f_now f_kind f_start f_value f_open f_topic f_trainDue) (fun h3 => ?_) (fun h4 => ?_)
  · refine xR_st K pq_X8_productNow 1 (pc' := 42) (L' := [some (.ref 0)]) (S' := [.int (-12)]) (C' := mcX8_productNow f_fault f_place f_tokens f_now f_kind f_start f_value f_open f_topic f_trainDue) rfl trivial ?_
    exact xR_ret K pq_X8_productNow rfl
  refine xsw_c (enc := meX8_productNow f_fault f_place f_tokens f_now f_kind f_start f_value f_open f_topic f_trainDue) (fun h5 => ?_) (fun h6 => ?_)
  · refine xR_st K pq_X8_productNow 1 (pc' := 45) (L' := [some (.ref 0)]) (S' := [.int (-13)]) (C' := mcX8_productNow f_fault f_place f_tokens f_now f_kind f_start f_value f_open f_topic f_trainDue) rfl trivial ?_
    exact xR_ret K pq_X8_productNow rfl
  refine xsw_d ?_
  refine xR_st K pq_X8_productNow 1 (pc' := 50) (L' := [some (.ref 0)]) (S' := [.int 0]) (C' := mcX8_productNow f_fault f_place f_tokens f_now f_kind f_start f_value f_open f_topic f_trainDue) rfl trivial ?_
  exact xR_ret K pq_X8_productNow rfl
def pg_X8_factNow : xPg := [(0, .aload_n 0, .null), (1, .invokevirtual 122, .null), (4, .istore_n 1, .null), (5, .iload_n 1, .null), (6, .bipush 11, .int 11), (8, .if_icmp .ne 5, .retAddr 13), (11, .iconst 0, .int 0), (12, .ireturn, .null), (13, .aload_n 0, .null), (14, .getfield 194, .retAddr 812), (17, .iconst 1, .int 1), (18, .if_icmp .ne 8, .retAddr 26), (21, .bipush 14, .int 14), (23, .goto 5, .retAddr 28), (26, .bipush 12, .int 12), (28, .istore_n 2, .null), (29, .aload_n 0, .null), (30, .getfield 194, .retAddr 812), (33, .iconst 1, .int 1), (34, .if_icmp .eq 10, .retAddr 44), (37, .iload_n 1, .null), (38, .iconst 2, .int 2), (39, .if_icmp .ne 5, .retAddr 44), (42, .iconst 1, .int 1), (43, .ireturn, .null), (44, .aload_n 0, .null), (45, .getfield 194, .retAddr 812), (48, .iconst 1, .int 1), (49, .if_icmp .eq 25, .retAddr 74), (52, .iload_n 1, .null), (53, .bipush 12, .int 12), (55, .if_icmp .eq 9, .retAddr 64), (58, .iload_n 1, .null), (59, .bipush 13, .int 13), (61, .if_icmp .ne 11, .retAddr 72), (64, .iload_n 1, .null), (65, .iload_n 2, .null), (66, .isub, .null), (67, .iconst 2, .int 2), (68, .iadd, .null), (69, .goto 4, .retAddr 73), (72, .iconst (-1), .int (-1)), (73, .ireturn, .null), (74, .iload_n 1, .null), (75, .bipush 14, .int 14), (77, .if_icmp .lt 17, .retAddr 94), (80, .iload_n 1, .null), (81, .bipush 16, .int 16), (83, .if_icmp .gt 11, .retAddr 94), (86, .iload_n 1, .null), (87, .iload_n 2, .null), (88, .isub, .null), (89, .iconst 1, .int 1), (90, .iadd, .null), (91, .goto 4, .retAddr 95), (94, .iconst (-1), .int (-1)), (95, .ireturn, .null)]
theorem pq_X8_factNow : xPq RX8 cX8_factNow tb_X8 pg_X8_factNow := ⟨tab_X8, xPok_of (by decide +kernel)⟩
theorem cy_X8_factNow : xCy yX8_factNow cX8_factNow 3 (some .int) := ⟨xtb_in (i := 846) (by decide +kernel) rfl, xtb_in (i := 154) (by decide +kernel) rfl, by decide +kernel, by decide +kernel⟩
theorem si_X8_factNow : Cond.instanceMethod yX8_factNow ∈ xtb ∧ Cond.selects yX8_factNow.cls yX8_factNow yX8_factNow ∈ xtb := ⟨xtb_in (i := 845) (by decide +kernel) rfl, xtb_in (i := 24) (by decide +kernel) rfl⟩
theorem ar_X8_factNow : xar yX8_factNow 0 := by unfold xar; decide +kernel
def mcX8_factNow (f_fault : Int32) (f_place : Int32) (f_tokens : Int32) (f_now : Int32) (f_kind : Int32) (f_start : Int32) (f_value : Int32) (f_open : Int32) (f_topic : Int32) (f_trainDue : Bool) : xC := [(0, .inr (8, [.ref 1, .ref 2, .ref 3, .int f_fault, .int f_place, .ref 4, .int f_tokens, .int f_now, .int f_kind, .int f_start, .int f_value, .int f_open, .int f_topic, .int (xb f_trainDue)]))]
def meX8_factNow (f_fault : Int32) (f_place : Int32) (f_tokens : Int32) (f_now : Int32) (f_kind : Int32) (f_start : Int32) (f_value : Int32) (f_open : Int32) (f_topic : Int32) (f_trainDue : Bool) : Int32 → xRes := fun r => some (some (.int r), mcX8_factNow f_fault f_place f_tokens f_now f_kind f_start f_value f_open f_topic f_trainDue)
def mX8_factNow_44 (f_kind : Int32) (f_value : Int32) (f_topic : Int32)  (x2_44 : Int32) : Int32 :=
  if f_topic = 1 then
    if (mX8_ownNow f_kind f_value) < 14 then
      ((-1) : Int32)
    else
      if 16 < (mX8_ownNow f_kind f_value) then
        ((-1) : Int32)
      else
        ((mX8_ownNow f_kind f_value) - x2_44) + 1
  else
    if (mX8_ownNow f_kind f_value) = 12 then
      ((mX8_ownNow f_kind f_value) - x2_44) + 2
    else
      if (mX8_ownNow f_kind f_value) = 13 then
        ((mX8_ownNow f_kind f_value) - x2_44) + 2
      else
        ((-1) : Int32)
def mX8_factNow_28 (f_kind : Int32) (f_value : Int32) (f_topic : Int32)  (s0_28 : Int32) : Int32 :=
  if f_topic = 1 then
    mX8_factNow_44 f_kind f_value f_topic s0_28
  else
    if (mX8_ownNow f_kind f_value) = 2 then
      (1 : Int32)
    else
      mX8_factNow_44 f_kind f_value f_topic s0_28
def mX8_factNow (f_kind : Int32) (f_value : Int32) (f_topic : Int32) : Int32 :=
  if (mX8_ownNow f_kind f_value) = 11 then
    (0 : Int32)
  else
    if f_topic = 1 then
      mX8_factNow_28 f_kind f_value f_topic (14 : Int32)
    else
      mX8_factNow_28 f_kind f_value f_topic (12 : Int32)
set_option maxRecDepth 100000 in
set_option maxHeartbeats 1500000 in
theorem kX8_factNow (l : Launch) (f_fault : Int32) (f_place : Int32) (f_tokens : Int32) (f_now : Int32) (f_kind : Int32) (f_start : Int32) (f_value : Int32) (f_open : Int32) (f_topic : Int32) (f_trainDue : Bool)  : xMet l 1 yX8_factNow cX8_factNow 3 (some .int) [.ref 0] (mcX8_factNow f_fault f_place f_tokens f_now f_kind f_start f_value f_open f_topic f_trainDue) (meX8_factNow f_fault f_place f_tokens f_now f_kind f_start f_value f_open f_topic f_trainDue (mX8_factNow f_kind f_value f_topic)) := by
  refine xMet_of cy_X8_factNow [some (.ref 0), none, none] rfl (Nat.le_of_ble_eq_true rfl) (fun X K => ?_)
  have J44 : ∀ (x2_44 : Int32) (g0_44 : ¬ (mX8_ownNow f_kind f_value) = 11), xR X (meX8_factNow f_fault f_place f_tokens f_now f_kind f_start f_value f_open f_topic f_trainDue (mX8_factNow_44 f_kind f_value f_topic x2_44)) 44 [some (.ref 0), some (.int (mX8_ownNow f_kind f_value)), some (.int x2_44)] [] (mcX8_factNow f_fault f_place f_tokens f_now f_kind f_start f_value f_open f_topic f_trainDue) := by
    intro x2_44 g0_44
    refine xR_st K pq_X8_factNow 3 (pc' := 49) (L' := [some (.ref 0), some (.int (mX8_ownNow f_kind f_value)), some (.int x2_44)]) (S' := [.int 1, .int f_topic]) (C' := mcX8_factNow f_fault f_place f_tokens f_now f_kind f_start f_value f_open f_topic f_trainDue) rfl trivial ?_
    refine xR_i2 (enc := meX8_factNow f_fault f_place f_tokens f_now f_kind f_start f_value f_open f_topic f_trainDue) (q1 := 74) (q2 := 52) K pq_X8_factNow rfl rfl rfl rfl (fun h5 => ?_) (fun h5 => ?_)
    · refine xR_st K pq_X8_factNow 2 (pc' := 77) (L' := [some (.ref 0), some (.int (mX8_ownNow f_kind f_value)), some (.int x2_44)]) (S' := [.int 14, .int (mX8_ownNow f_kind f_value)]) (C' := mcX8_factNow f_fault f_place f_tokens f_now f_kind f_start f_value f_open f_topic f_trainDue) rfl trivial ?_
      refine xR_i2 (enc := meX8_factNow f_fault f_place f_tokens f_now f_kind f_start f_value f_open f_topic f_trainDue) (q1 := 94) (q2 := 80) K pq_X8_factNow rfl rfl rfl rfl (fun h6 => ?_) (fun h6 => ?_)
      · refine xR_st K pq_X8_factNow 1 (pc' := 95) (L' := [some (.ref 0), some (.int (mX8_ownNow f_kind f_value)), some (.int x2_44)]) (S' := [.int (-1)]) (C' := mcX8_factNow f_fault f_place f_tokens f_now f_kind f_start f_value f_open f_topic f_trainDue) rfl trivial ?_
        exact xR_ret K pq_X8_factNow rfl
      · refine xR_st K pq_X8_factNow 2 (pc' := 83) (L' := [some (.ref 0), some (.int (mX8_ownNow f_kind f_value)), some (.int x2_44)]) (S' := [.int 16, .int (mX8_ownNow f_kind f_value)]) (C' := mcX8_factNow f_fault f_place f_tokens f_now f_kind f_start f_value f_open f_topic f_trainDue) rfl trivial ?_
        refine xR_i2 (enc := meX8_factNow f_fault f_place f_tokens f_now f_kind f_start f_value f_open f_topic f_trainDue) (q1 := 94) (q2 := 86) K pq_X8_factNow rfl rfl rfl rfl (fun h7 => ?_) (fun h7 => ?_)
        · refine xR_st K pq_X8_factNow 1 (pc' := 95) (L' := [some (.ref 0), some (.int (mX8_ownNow f_kind f_value)), some (.int x2_44)]) (S' := [.int (-1)]) (C' := mcX8_factNow f_fault f_place f_tokens f_now f_kind f_start f_value f_open f_topic f_trainDue) rfl trivial ?_
          exact xR_ret K pq_X8_factNow rfl
        · refine xR_st K pq_X8_factNow 6 (pc' := 95) (L' := [some (.ref 0), some (.int (mX8_ownNow f_kind f_value)), some (.int x2_44)]) (S' := [.int (((mX8_ownNow f_kind f_value) - x2_44) + 1)]) (C' := mcX8_factNow f_fault f_place f_tokens f_now f_kind f_start f_value f_open f_topic f_trainDue) rfl trivial ?_
          exact xR_ret K pq_X8_factNow rfl
    · refine xR_st K pq_X8_factNow 2 (pc' := 55) (L' := [some (.ref 0), some (.int (mX8_ownNow f_kind f_value)), some (.int x2_44)]) (S' := [.int 12, .int (mX8_ownNow f_kind f_value)]) (C' := mcX8_factNow f_fault f_place f_tokens f_now f_kind f_start f_value f_open f_topic f_trainDue) rfl trivial ?_
      refine xR_i2 (enc := meX8_factNow f_fault f_place f_tokens f_now f_kind f_start f_value f_open f_topic f_trainDue) (q1 := 64) (q2 := 58) K pq_X8_factNow rfl rfl rfl rfl (fun h8 => ?_) (fun h8 => ?_)
      · refine xR_st K pq_X8_factNow 6 (pc' := 73) (L' := [some (.ref 0), some (.int (mX8_ownNow f_kind f_value)), some (.int x2_44)]) (S' := [.int (((mX8_ownNow f_kind f_value) - x2_44) + 2)]) (C' := mcX8_factNow f_fault f_place f_tokens f_now f_kind f_start f_value f_open f_topic f_trainDue) rfl trivial ?_
        exact xR_ret K pq_X8_factNow rfl
      · refine xR_st K pq_X8_factNow 2 (pc' := 61) (L' := [some (.ref 0), some (.int (mX8_ownNow f_kind f_value)), some (.int x2_44)]) (S' := [.int 13, .int (mX8_ownNow f_kind f_value)]) (C' := mcX8_factNow f_fault f_place f_tokens f_now f_kind f_start f_value f_open f_topic f_trainDue) rfl trivial ?_
        refine xR_i2 (enc := meX8_factNow f_fault f_place f_tokens f_now f_kind f_start f_value f_open f_topic f_trainDue) (q1 := 64) (q2 := 72) K pq_X8_factNow rfl rfl rfl rfl (fun h9 => ?_) (fun h9 => ?_)
        · refine xR_st K pq_X8_factNow 6 (pc' := 73) (L' := [some (.ref 0), some (.int (mX8_ownNow f_kind f_value)), some (.int x2_44)]) (S' := [.int (((mX8_ownNow f_kind f_value) - x2_44) + 2)]) (C' := mcX8_factNow f_fault f_place f_tokens f_now f_kind f_start f_value f_open f_topic f_trainDue) rfl trivial ?_
          exact xR_ret K pq_X8_factNow rfl
        · refine xR_st K pq_X8_factNow 1 (pc' := 73) (L' := [some (.ref 0), some (.int (mX8_ownNow f_kind f_value)), some (.int x2_44)]) (S' := [.int (-1)]) (C' := mcX8_factNow f_fault f_place f_tokens f_now f_kind f_start f_value f_open f_topic f_trainDue) rfl trivial ?_
          exact xR_ret K pq_X8_factNow rfl
  have J28 : ∀ (s0_28 : Int32) (g0_28 : ¬ (mX8_ownNow f_kind f_value) = 11), xR X (meX8_factNow f_fault f_place f_tokens f_now f_kind f_start f_value f_open f_topic f_trainDue (mX8_factNow_28 f_kind f_value f_topic s0_28)) 28 [some (.ref 0), some (.int (mX8_ownNow f_kind f_value)), none] [.int s0_28] (mcX8_factNow f_fault f_place f_tokens f_now f_kind f_start f_value f_open f_topic f_trainDue) := by
    intro s0_28 g0_28
    refine xR_st K pq_X8_factNow 4 (pc' := 34) (L' := [some (.ref 0), some (.int (mX8_ownNow f_kind f_value)), some (.int s0_28)]) (S' := [.int 1, .int f_topic]) (C' := mcX8_factNow f_fault f_place f_tokens f_now f_kind f_start f_value f_open f_topic f_trainDue) rfl trivial ?_
    refine xR_i2 (enc := meX8_factNow f_fault f_place f_tokens f_now f_kind f_start f_value f_open f_topic f_trainDue) (q1 := 44) (q2 := 37) K pq_X8_factNow rfl rfl rfl rfl (fun h3 => ?_) (fun h3 => ?_)
    · exact xR_less2 (J44 _ g0_28) ⟨rfl, rfl, rfl, trivial⟩
    · refine xR_st K pq_X8_factNow 2 (pc' := 39) (L' := [some (.ref 0), some (.int (mX8_ownNow f_kind f_value)), some (.int s0_28)]) (S' := [.int 2, .int (mX8_ownNow f_kind f_value)]) (C' := mcX8_factNow f_fault f_place f_tokens f_now f_kind f_start f_value f_open f_topic f_trainDue) rfl trivial ?_
      refine xR_i2 (enc := meX8_factNow f_fault f_place f_tokens f_now f_kind f_start f_value f_open f_topic f_trainDue) (q1 := 42) (q2 := 44) K pq_X8_factNow rfl rfl rfl rfl (fun h4 => ?_) (fun h4 => ?_)
      · refine xR_st K pq_X8_factNow 1 (pc' := 43) (L' := [some (.ref 0), some (.int (mX8_ownNow f_kind f_value)), some (.int s0_28)]) (S' := [.int 1]) (C' := mcX8_factNow f_fault f_place f_tokens f_now f_kind f_start f_value f_open f_topic f_trainDue) rfl trivial ?_
        exact xR_ret K pq_X8_factNow rfl
      · exact xR_less2 (J44 _ g0_28) ⟨rfl, rfl, rfl, trivial⟩
  refine xR_st K pq_X8_factNow 1 (pc' := 1) (L' := [some (.ref 0), none, none]) (S' := [.ref 0]) (C' := mcX8_factNow f_fault f_place f_tokens f_now f_kind f_start f_value f_open f_topic f_trainDue) rfl trivial ?_
  refine xR_callV3 K pq_X8_factNow rfl lk_X8_122 cy_X8_ownNow si_X8_ownNow ar_X8_ownNow (rest := []) (kX8_ownNow l f_fault f_place f_tokens f_now f_kind f_start f_value f_open f_topic f_trainDue) (by decide) (by decide) rfl rfl (S2 := [.int (mX8_ownNow f_kind f_value)]) (C2 := mcX8_factNow f_fault f_place f_tokens f_now f_kind f_start f_value f_open f_topic f_trainDue) id [0] rfl rfl (Nat.le_of_ble_eq_true rfl) rfl (by decide) rfl rfl rfl ?_
  refine xR_st K pq_X8_factNow 3 (pc' := 8) (L' := [some (.ref 0), some (.int (mX8_ownNow f_kind f_value)), none]) (S' := [.int 11, .int (mX8_ownNow f_kind f_value)]) (C' := mcX8_factNow f_fault f_place f_tokens f_now f_kind f_start f_value f_open f_topic f_trainDue) rfl trivial ?_
  refine xR_i2 (enc := meX8_factNow f_fault f_place f_tokens f_now f_kind f_start f_value f_open f_topic f_trainDue) (q1 := 11) (q2 := 13) K pq_X8_factNow rfl rfl rfl rfl (fun h1 => ?_) (fun h1 => ?_)
  · refine xR_st K pq_X8_factNow 1 (pc' := 12) (L' := [some (.ref 0), some (.int (mX8_ownNow f_kind f_value)), none]) (S' := [.int 0]) (C' := mcX8_factNow f_fault f_place f_tokens f_now f_kind f_start f_value f_open f_topic f_trainDue) rfl trivial ?_
    exact xR_ret K pq_X8_factNow rfl
  · refine xR_st K pq_X8_factNow 3 (pc' := 18) (L' := [some (.ref 0), some (.int (mX8_ownNow f_kind f_value)), none]) (S' := [.int 1, .int f_topic]) (C' := mcX8_factNow f_fault f_place f_tokens f_now f_kind f_start f_value f_open f_topic f_trainDue) rfl trivial ?_
    refine xR_i2 (enc := meX8_factNow f_fault f_place f_tokens f_now f_kind f_start f_value f_open f_topic f_trainDue) (q1 := 21) (q2 := 26) K pq_X8_factNow rfl rfl rfl rfl (fun h2 => ?_) (fun h2 => ?_)
    · refine xR_st K pq_X8_factNow 2 (pc' := 28) (L' := [some (.ref 0), some (.int (mX8_ownNow f_kind f_value)), none]) (S' := [.int 14]) (C' := mcX8_factNow f_fault f_place f_tokens f_now f_kind f_start f_value f_open f_topic f_trainDue) rfl trivial ?_
      exact xR_less2 (J28 _ h1) ⟨rfl, rfl, trivial⟩
    · refine xR_st K pq_X8_factNow 1 (pc' := 28) (L' := [some (.ref 0), some (.int (mX8_ownNow f_kind f_value)), none]) (S' := [.int 12]) (C' := mcX8_factNow f_fault f_place f_tokens f_now f_kind f_start f_value f_open f_topic f_trainDue) rfl trivial ?_
      exact xR_less2 (J28 _ h1) ⟨rfl, rfl, trivial⟩
def pg_X8_isBlank : xPg := [(0, .iload_n 0, .null), (1, .bipush 10, .int 10), (3, .if_icmp .eq 9, .retAddr 12), (6, .iload_n 0, .null), (7, .bipush 32, .int 32), (9, .if_icmp .ne 7, .retAddr 16), (12, .iconst 1, .int 1), (13, .goto 4, .retAddr 17), (16, .iconst 0, .int 0), (17, .ireturn, .null)]
theorem pq_X8_isBlank : xPq RX8 cX8_isBlank tb_X8 pg_X8_isBlank := ⟨tab_X8, xPok_of (by decide +kernel)⟩
theorem cy_X8_isBlank : xCy yX8_isBlank cX8_isBlank 1 (some .boolean) := ⟨xtb_in (i := 702) (by decide +kernel) rfl, xtb_in (i := 154) (by decide +kernel) rfl, by decide +kernel, by decide +kernel⟩
theorem ss_X8_isBlank : Cond.static yX8_isBlank ∈ xtb := xtb_in (i := 701) (by decide +kernel) rfl
theorem ar_X8_isBlank : xar yX8_isBlank 1 := by unfold xar; decide +kernel
def mcX8_isBlank  : xC := []
def meX8_isBlank  : Bool → xRes := fun r => some (some (.int (xb r)), mcX8_isBlank)
def mX8_isBlank (v_c : Int32) : Bool :=
  if v_c = 10 then
    true
  else
    if v_c = 32 then
      true
    else
      false
set_option maxRecDepth 100000 in
set_option maxHeartbeats 1500000 in
theorem kX8_isBlank (l : Launch) (v_c : Int32)  : xMet l 0 yX8_isBlank cX8_isBlank 1 (some .boolean) [.int v_c] (mcX8_isBlank) (meX8_isBlank (mX8_isBlank v_c)) := by
  refine xMet_of cy_X8_isBlank [some (.int v_c)] rfl (Nat.le_of_ble_eq_true rfl) (fun X K => ?_)
  refine xR_st K pq_X8_isBlank 2 (pc' := 3) (L' := [some (.int v_c)]) (S' := [.int 10, .int v_c]) (C' := mcX8_isBlank) rfl trivial ?_
  refine xR_i2 (enc := meX8_isBlank) (q1 := 12) (q2 := 6) K pq_X8_isBlank rfl rfl rfl rfl (fun h1 => ?_) (fun h1 => ?_)
  · refine xR_st K pq_X8_isBlank 2 (pc' := 17) (L' := [some (.int v_c)]) (S' := [.int 1]) (C' := mcX8_isBlank) rfl trivial ?_
    exact xR_retb (b := true) K pq_X8_isBlank rfl
  · refine xR_st K pq_X8_isBlank 2 (pc' := 9) (L' := [some (.int v_c)]) (S' := [.int 32, .int v_c]) (C' := mcX8_isBlank) rfl trivial ?_
    refine xR_i2 (enc := meX8_isBlank) (q1 := 12) (q2 := 16) K pq_X8_isBlank rfl rfl rfl rfl (fun h2 => ?_) (fun h2 => ?_)
    · refine xR_st K pq_X8_isBlank 2 (pc' := 17) (L' := [some (.int v_c)]) (S' := [.int 1]) (C' := mcX8_isBlank) rfl trivial ?_
      exact xR_retb (b := true) K pq_X8_isBlank rfl
    · refine xR_st K pq_X8_isBlank 1 (pc' := 17) (L' := [some (.int v_c)]) (S' := [.int 0]) (C' := mcX8_isBlank) rfl trivial ?_
      exact xR_retb (b := false) K pq_X8_isBlank rfl
def pg_X8_isLetter : xPg := [(0, .iload_n 0, .null), (1, .bipush 97, .int 97), (3, .if_icmp .lt 13, .retAddr 16), (6, .iload_n 0, .null), (7, .bipush 122, .int 122), (9, .if_icmp .gt 7, .retAddr 16), (12, .iconst 1, .int 1), (13, .goto 4, .retAddr 17), (16, .iconst 0, .int 0), (17, .ireturn, .null)]
theorem pq_X8_isLetter : xPq RX8 cX8_isLetter tb_X8 pg_X8_isLetter := ⟨tab_X8, xPok_of (by decide +kernel)⟩
theorem cy_X8_isLetter : xCy yX8_isLetter cX8_isLetter 1 (some .boolean) := ⟨xtb_in (i := 709) (by decide +kernel) rfl, xtb_in (i := 154) (by decide +kernel) rfl, by decide +kernel, by decide +kernel⟩
theorem ss_X8_isLetter : Cond.static yX8_isLetter ∈ xtb := xtb_in (i := 708) (by decide +kernel) rfl
theorem ar_X8_isLetter : xar yX8_isLetter 1 := by unfold xar; decide +kernel
def mcX8_isLetter  : xC := []
def meX8_isLetter  : Bool → xRes := fun r => some (some (.int (xb r)), mcX8_isLetter)
def mX8_isLetter (v_c : Int32) : Bool :=
  if v_c < 97 then
    false
  else
    if 122 < v_c then
      false
    else
      true
set_option maxRecDepth 100000 in
set_option maxHeartbeats 1500000 in
theorem kX8_isLetter (l : Launch) (v_c : Int32)  : xMet l 0 yX8_isLetter cX8_isLetter 1 (some .boolean) [.int v_c] (mcX8_isLetter) (meX8_isLetter (mX8_isLetter v_c)) := by
  refine xMet_of cy_X8_isLetter [some (.int v_c)] rfl (Nat.le_of_ble_eq_true rfl) (fun X K => ?_)
  refine xR_st K pq_X8_isLetter 2 (pc' := 3) (L' := [some (.int v_c)]) (S' := [.int 97, .int v_c]) (C' := mcX8_isLetter) rfl trivial ?_
  refine xR_i2 (enc := meX8_isLetter) (q1 := 16) (q2 := 6) K pq_X8_isLetter rfl rfl rfl rfl (fun h1 => ?_) (fun h1 => ?_)
  · refine xR_st K pq_X8_isLetter 1 (pc' := 17) (L' := [some (.int v_c)]) (S' := [.int 0]) (C' := mcX8_isLetter) rfl trivial ?_
    exact xR_retb (b := false) K pq_X8_isLetter rfl
  · refine xR_st K pq_X8_isLetter 2 (pc' := 9) (L' := [some (.int v_c)]) (S' := [.int 122, .int v_c]) (C' := mcX8_isLetter) rfl trivial ?_
    refine xR_i2 (enc := meX8_isLetter) (q1 := 16) (q2 := 12) K pq_X8_isLetter rfl rfl rfl rfl (fun h2 => ?_) (fun h2 => ?_)
    · refine xR_st K pq_X8_isLetter 1 (pc' := 17) (L' := [some (.int v_c)]) (S' := [.int 0]) (C' := mcX8_isLetter) rfl trivial ?_
      exact xR_retb (b := false) K pq_X8_isLetter rfl
    · refine xR_st K pq_X8_isLetter 2 (pc' := 17) (L' := [some (.int v_c)]) (S' := [.int 1]) (C' := mcX8_isLetter) rfl trivial ?_
      exact xR_retb (b := true) K pq_X8_isLetter rfl
def pg_X8_isDigit : xPg := [(0, .iload_n 0, .null), (1, .bipush 48, .int 48), (3, .if_icmp .lt 13, .retAddr 16), (6, .iload_n 0, .null), (7, .bipush 57, .int 57), (9, .if_icmp .gt 7, .retAddr 16), (12, .iconst 1, .int 1), (13, .goto 4, .retAddr 17), (16, .iconst 0, .int 0), (17, .ireturn, .null)]
theorem pq_X8_isDigit : xPq RX8 cX8_isDigit tb_X8 pg_X8_isDigit := ⟨tab_X8, xPok_of (by decide +kernel)⟩
theorem cy_X8_isDigit : xCy yX8_isDigit cX8_isDigit 1 (some .boolean) := ⟨xtb_in (i := 712) (by decide +kernel) rfl, xtb_in (i := 154) (by decide +kernel) rfl, by decide +kernel, by decide +kernel⟩
theorem ss_X8_isDigit : Cond.static yX8_isDigit ∈ xtb := xtb_in (i := 711) (by decide +kernel) rfl
theorem ar_X8_isDigit : xar yX8_isDigit 1 := by unfold xar; decide +kernel
def mcX8_isDigit  : xC := []
def meX8_isDigit  : Bool → xRes := fun r => some (some (.int (xb r)), mcX8_isDigit)
def mX8_isDigit (v_c : Int32) : Bool :=
  if v_c < 48 then
    false
  else
    if 57 < v_c then
      false
    else
      true
set_option maxRecDepth 100000 in
set_option maxHeartbeats 1500000 in
theorem kX8_isDigit (l : Launch) (v_c : Int32)  : xMet l 0 yX8_isDigit cX8_isDigit 1 (some .boolean) [.int v_c] (mcX8_isDigit) (meX8_isDigit (mX8_isDigit v_c)) := by
  refine xMet_of cy_X8_isDigit [some (.int v_c)] rfl (Nat.le_of_ble_eq_true rfl) (fun X K => ?_)
  refine xR_st K pq_X8_isDigit 2 (pc' := 3) (L' := [some (.int v_c)]) (S' := [.int 48, .int v_c]) (C' := mcX8_isDigit) rfl trivial ?_
  refine xR_i2 (enc := meX8_isDigit) (q1 := 16) (q2 := 6) K pq_X8_isDigit rfl rfl rfl rfl (fun h1 => ?_) (fun h1 => ?_)
  · refine xR_st K pq_X8_isDigit 1 (pc' := 17) (L' := [some (.int v_c)]) (S' := [.int 0]) (C' := mcX8_isDigit) rfl trivial ?_
    exact xR_retb (b := false) K pq_X8_isDigit rfl
  · refine xR_st K pq_X8_isDigit 2 (pc' := 9) (L' := [some (.int v_c)]) (S' := [.int 57, .int v_c]) (C' := mcX8_isDigit) rfl trivial ?_
    refine xR_i2 (enc := meX8_isDigit) (q1 := 16) (q2 := 12) K pq_X8_isDigit rfl rfl rfl rfl (fun h2 => ?_) (fun h2 => ?_)
    · refine xR_st K pq_X8_isDigit 1 (pc' := 17) (L' := [some (.int v_c)]) (S' := [.int 0]) (C' := mcX8_isDigit) rfl trivial ?_
      exact xR_retb (b := false) K pq_X8_isDigit rfl
    · refine xR_st K pq_X8_isDigit 2 (pc' := 17) (L' := [some (.int v_c)]) (S' := [.int 1]) (C' := mcX8_isDigit) rfl trivial ?_
      exact xR_retb (b := true) K pq_X8_isDigit rfl
def pg_X8_addToken : xPg := [(0, .aload_n 0, .null), (1, .getfield 9, .retAddr 800), (4, .aload_n 0, .null), (5, .getfield 72, .retAddr 806), (8, .iload_n 1, .null), (9, .invokestatic 118, .null), (12, .aload_n 0, .null), (13, .getfield 15, .retAddr 801), (16, .aload_n 0, .null), (17, .getfield 72, .retAddr 806), (20, .iload_n 2, .null), (21, .invokestatic 118, .null), (24, .aload_n 0, .null), (25, .getfield 18, .retAddr 802), (28, .aload_n 0, .null), (29, .getfield 72, .retAddr 806), (32, .iload_n 3, .null), (33, .invokestatic 118, .null), (36, .aload_n 0, .null), (37, .dup, .null), (38, .getfield 72, .retAddr 806), (41, .iconst 1, .int 1), (42, .iadd, .null), (43, .putfield 72, .retAddr 806), (46, .return_, .null)]
theorem pq_X8_addToken : xPq RX8 cX8_addToken tb_X8 pg_X8_addToken := ⟨tab_X8, xPok_of (by decide +kernel)⟩
theorem cy_X8_addToken : xCy yX8_addToken cX8_addToken 4 none := ⟨xtb_in (i := 716) (by decide +kernel) rfl, xtb_in (i := 154) (by decide +kernel) rfl, by decide +kernel, by decide +kernel⟩
theorem si_X8_addToken : Cond.instanceMethod yX8_addToken ∈ xtb ∧ Cond.selects yX8_addToken.cls yX8_addToken yX8_addToken ∈ xtb := ⟨xtb_in (i := 715) (by decide +kernel) rfl, xtb_in (i := 5) (by decide +kernel) rfl⟩
theorem ar_X8_addToken : xar yX8_addToken 3 := by unfold xar; decide +kernel
def mcX8_addToken (f_fault : Int32) (f_place : Int32) (f_tokens : Int32) (f_now : Int32) (f_kind : Int32) (f_start : Int32) (f_value : Int32) (f_open : Int32) (f_topic : Int32) (f_trainDue : Bool) (a_kinds : Nat → Int32) (a_starts : Nat → Int32) (a_values : Nat → Int32) : xC := [(0, .inr (8, [.ref 1, .ref 2, .ref 3, .int f_fault, .int f_place, .ref 4, .int f_tokens, .int f_now, .int f_kind, .int f_start, .int f_value, .int f_open, .int f_topic, .int (xb f_trainDue)])), (1, .inl (0, 1601, .inl a_kinds)), (2, .inl (0, 1601, .inl a_starts)), (3, .inl (0, 1601, .inl a_values))]
def meX8_addToken (f_fault : Int32) (f_place : Int32) (f_tokens : Int32) (f_now : Int32) (f_kind : Int32) (f_start : Int32) (f_value : Int32) (f_open : Int32) (f_topic : Int32) (f_trainDue : Bool) (a_kinds : Nat → Int32) (a_starts : Nat → Int32) (a_values : Nat → Int32) : Int32 × (Nat → Int32) × (Nat → Int32) × (Nat → Int32) → xRes := fun r => some (none, mcX8_addToken f_fault f_place r.1 f_now f_kind f_start f_value f_open f_topic f_trainDue r.2.1 r.2.2.1 r.2.2.2)
def mX8_addToken (v_ofKind : Int32) (v_from : Int32) (v_worth : Int32) (f_tokens : Int32) (a_kinds : Nat → Int32) (a_starts : Nat → Int32) (a_values : Nat → Int32) : Int32 × (Nat → Int32) × (Nat → Int32) × (Nat → Int32) :=
  xlet (mX11_put 1601 f_tokens v_ofKind a_kinds) (fun q1 =>
    xlet (mX11_put 1601 f_tokens v_from a_starts) (fun q2 =>
      xlet (mX11_put 1601 f_tokens v_worth a_values) (fun q3 =>
        (f_tokens + 1, q1, q2, q3))))
set_option maxRecDepth 100000 in
set_option maxHeartbeats 1500000 in
theorem kX8_addToken (l : Launch) (v_ofKind : Int32) (v_from : Int32) (v_worth : Int32) (f_fault : Int32) (f_place : Int32) (f_tokens : Int32) (f_now : Int32) (f_kind : Int32) (f_start : Int32) (f_value : Int32) (f_open : Int32) (f_topic : Int32) (f_trainDue : Bool) (a_kinds : Nat → Int32) (a_starts : Nat → Int32) (a_values : Nat → Int32)  : xMet l 1 yX8_addToken cX8_addToken 4 none [.ref 0, .int v_ofKind, .int v_from, .int v_worth] (mcX8_addToken f_fault f_place f_tokens f_now f_kind f_start f_value f_open f_topic f_trainDue a_kinds a_starts a_values) (meX8_addToken f_fault f_place f_tokens f_now f_kind f_start f_value f_open f_topic f_trainDue a_kinds a_starts a_values (mX8_addToken v_ofKind v_from v_worth f_tokens a_kinds a_starts a_values)) := by
  refine xMet_of cy_X8_addToken [some (.ref 0), some (.int v_ofKind), some (.int v_from), some (.int v_worth)] rfl (Nat.le_of_ble_eq_true rfl) (fun X K => ?_)
  refine xR_st K pq_X8_addToken 5 (pc' := 9) (L' := [some (.ref 0), some (.int v_ofKind), some (.int v_from), some (.int v_worth)]) (S' := [.int v_ofKind, .int f_tokens, .ref 1]) (C' := mcX8_addToken f_fault f_place f_tokens f_now f_kind f_start f_value f_open f_topic f_trainDue a_kinds a_starts a_values) rfl trivial ?_
  refine xR_let (enc := meX8_addToken f_fault f_place f_tokens f_now f_kind f_start f_value f_open f_topic f_trainDue a_kinds a_starts a_values) (fun q1 hq1 => ?_)
  have hMq1 := kX11_put l 1601 f_tokens v_ofKind a_kinds (by first | assumption | decide | omega)
  rw [← hq1] at hMq1
  refine xR_callS3 K pq_X8_addToken rfl lk_X8_118 cy_X11_put ss_X11_put ar_X11_put (rest := []) hMq1 (by decide) (by decide) (S2 := []) (C2 := mcX8_addToken f_fault f_place f_tokens f_now f_kind f_start f_value f_open f_topic f_trainDue q1 a_starts a_values) (fun k => k - 1000 + 1) [1] rfl rfl (Nat.le_of_ble_eq_true rfl) rfl (by decide) rfl rfl rfl ?_
  refine xR_st K pq_X8_addToken 5 (pc' := 21) (L' := [some (.ref 0), some (.int v_ofKind), some (.int v_from), some (.int v_worth)]) (S' := [.int v_from, .int f_tokens, .ref 2]) (C' := mcX8_addToken f_fault f_place f_tokens f_now f_kind f_start f_value f_open f_topic f_trainDue q1 a_starts a_values) rfl trivial ?_
  refine xR_let (enc := meX8_addToken f_fault f_place f_tokens f_now f_kind f_start f_value f_open f_topic f_trainDue a_kinds a_starts a_values) (fun q2 hq2 => ?_)
  have hMq2 := kX11_put l 1601 f_tokens v_from a_starts (by first | assumption | decide | omega)
  rw [← hq2] at hMq2
  refine xR_callS3 K pq_X8_addToken rfl lk_X8_118 cy_X11_put ss_X11_put ar_X11_put (rest := []) hMq2 (by decide) (by decide) (S2 := []) (C2 := mcX8_addToken f_fault f_place f_tokens f_now f_kind f_start f_value f_open f_topic f_trainDue q1 q2 a_values) (fun k => k - 1000 + 2) [2] rfl rfl (Nat.le_of_ble_eq_true rfl) rfl (by decide) rfl rfl rfl ?_
  refine xR_st K pq_X8_addToken 5 (pc' := 33) (L' := [some (.ref 0), some (.int v_ofKind), some (.int v_from), some (.int v_worth)]) (S' := [.int v_worth, .int f_tokens, .ref 3]) (C' := mcX8_addToken f_fault f_place f_tokens f_now f_kind f_start f_value f_open f_topic f_trainDue q1 q2 a_values) rfl trivial ?_
  refine xR_let (enc := meX8_addToken f_fault f_place f_tokens f_now f_kind f_start f_value f_open f_topic f_trainDue a_kinds a_starts a_values) (fun q3 hq3 => ?_)
  have hMq3 := kX11_put l 1601 f_tokens v_worth a_values (by first | assumption | decide | omega)
  rw [← hq3] at hMq3
  refine xR_callS3 K pq_X8_addToken rfl lk_X8_118 cy_X11_put ss_X11_put ar_X11_put (rest := []) hMq3 (by decide) (by decide) (S2 := []) (C2 := mcX8_addToken f_fault f_place f_tokens f_now f_kind f_start f_value f_open f_topic f_trainDue q1 q2 q3) (fun k => k - 1000 + 3) [3] rfl rfl (Nat.le_of_ble_eq_true rfl) rfl (by decide) rfl rfl rfl ?_
  refine xR_st K pq_X8_addToken 6 (pc' := 46) (L' := [some (.ref 0), some (.int v_ofKind), some (.int v_from), some (.int v_worth)]) (S' := []) (C' := mcX8_addToken f_fault f_place (f_tokens + 1) f_now f_kind f_start f_value f_open f_topic f_trainDue q1 q2 q3) rfl ⟨trivial, trivial⟩ ?_
  exact xR_retv K pq_X8_addToken rfl
def pg_X8_ownWord : xPg := [(0, .iconst 0, .int 0), (1, .istore 4, .null), (3, .iload 4, .null), (5, .bipush 24, .int 24), (7, .if_icmp .ge 103, .retAddr 110), (10, .iconst 1, .int 1), (11, .istore 5, .null), (13, .iconst 0, .int 0), (14, .istore 6, .null), (16, .iload 6, .null), (18, .bipush 6, .int 6), (20, .if_icmp .ge 76, .retAddr 96), (23, .iload 5, .null), (25, .ifCond .eq 71, .retAddr 96), (28, .iload_n 2, .null), (29, .iload 6, .null), (31, .iadd, .null), (32, .iload_n 3, .null), (33, .if_icmp .ge 14, .retAddr 47), (36, .aload_n 1, .null), (37, .iload_n 2, .null), (38, .iload 6, .null), (40, .iadd, .null), (41, .invokestatic 75, .null), (44, .goto 5, .retAddr 49), (47, .bipush 32, .int 32), (49, .istore 7, .null), (51, .iload 4, .null), (53, .bipush 6, .int 6), (55, .imul, .null), (56, .iload 6, .null), (58, .iadd, .null), (59, .istore 8, .null), (61, .iload 8, .null), (65, .invokevirtual 108, .null), (68, .if_icmp .ge 19, .retAddr 87), (73, .iload 8, .null), (75, .invokevirtual 114, .null), (78, .iload 7, .null), (80, .if_icmp .ne 7, .retAddr 87), (83, .iconst 1, .int 1), (84, .goto 4, .retAddr 88), (87, .iconst 0, .int 0), (88, .istore 5, .null), (90, .iinc 6 1, .int 1), (93, .goto (-77), .retAddr 16), (96, .iload 5, .null), (98, .ifCond .eq 6, .retAddr 104), (101, .iload 4, .null), (103, .ireturn, .null), (104, .iinc 4 1, .int 1), (107, .goto (-104), .retAddr 3), (110, .iconst (-1), .int (-1)), (111, .ireturn, .null)]
theorem pq_X8_ownWord : xPq RX8 cX8_ownWord tb_X8 pg_X8_ownWord := ⟨tab_X8, xPok_of (by decide +kernel)⟩
theorem cy_X8_ownWord : xCy yX8_ownWord cX8_ownWord 9 (some .int) := ⟨xtb_in (i := 725) (by decide +kernel) rfl, xtb_in (i := 154) (by decide +kernel) rfl, by decide +kernel, by decide +kernel⟩
theorem si_X8_ownWord : Cond.instanceMethod yX8_ownWord ∈ xtb ∧ Cond.selects yX8_ownWord.cls yX8_ownWord yX8_ownWord ∈ xtb := ⟨xtb_in (i := 724) (by decide +kernel) rfl, xtb_in (i := 7) (by decide +kernel) rfl⟩
theorem dstX8_ownWord_63 : decode cX8_ownWord 63 = .ok (.ldc 106, 2) := by decide +kernel
theorem dstX8_ownWord_71 : decode cX8_ownWord 71 = .ok (.ldc 106, 2) := by decide +kernel
theorem ar_X8_ownWord : xar yX8_ownWord 3 := by unfold xar; decide +kernel
def mcX8_ownWord (n_text : Nat) (f_fault : Int32) (f_place : Int32) (f_tokens : Int32) (f_now : Int32) (f_kind : Int32) (f_start : Int32) (f_value : Int32) (f_open : Int32) (f_topic : Int32) (f_trainDue : Bool) (a_text : Nat → Int32) : xC := [(0, .inr (8, [.ref 1, .ref 2, .ref 3, .int f_fault, .int f_place, .ref 4, .int f_tokens, .int f_now, .int f_kind, .int f_start, .int f_value, .int f_open, .int f_topic, .int (xb f_trainDue)])), (1000, .inl (0, n_text, .inl a_text))]
def meX8_ownWord (n_text : Nat) (f_fault : Int32) (f_place : Int32) (f_tokens : Int32) (f_now : Int32) (f_kind : Int32) (f_start : Int32) (f_value : Int32) (f_open : Int32) (f_topic : Int32) (f_trainDue : Bool) (a_text : Nat → Int32) : Int32 → xRes := fun r => some (some (.int r), mcX8_ownWord n_text f_fault f_place f_tokens f_now f_kind f_start f_value f_open f_topic f_trainDue a_text)
def mX8_ownWord_49 (i16 : Nat) (i3 : Nat) (K16 : Int32 → Int32) (s0_49 : Int32) : Int32 :=
  if (((nI i3) * 6) + (nI i16)) < 144 then
    if (xow (((nI i3) * 6) + (nI i16))) = s0_49 then
      K16 (1 : Int32)
    else
      K16 (0 : Int32)
  else
    K16 (0 : Int32)
def mX8_ownWord_16 (n_text : Nat) (v_from : Int32) (v_end : Int32) (a_text : Nat → Int32) (i3 : Nat) (K3 : Int32) : Nat → Nat → Int32 → Int32
  | 0, i16, x5_16 => if x5_16 = 0 then
      K3
    else
      nI i3
  | k16 + 1, i16, x5_16 =>
    if x5_16 = 0 then
      K3
    else
      if (v_from + (nI i16)) < v_end then
        mX8_ownWord_49 i16 i3 (fun zx5_16 => mX8_ownWord_16 n_text v_from v_end a_text i3 K3 k16 (i16 + 1) zx5_16) (mX11_at n_text (v_from + (nI i16)) a_text)
      else
        mX8_ownWord_49 i16 i3 (fun zx5_16 => mX8_ownWord_16 n_text v_from v_end a_text i3 K3 k16 (i16 + 1) zx5_16) (32 : Int32)
def mX8_ownWord_3 (n_text : Nat) (v_from : Int32) (v_end : Int32) (a_text : Nat → Int32)  : Nat → Nat → Int32
  | 0, i3 => ((-1) : Int32)
  | k3 + 1, i3 =>
    mX8_ownWord_16 n_text v_from v_end a_text i3 (mX8_ownWord_3 n_text v_from v_end a_text k3 (i3 + 1)) 6 0 (1 : Int32)
def mX8_ownWord (n_text : Nat) (v_from : Int32) (v_end : Int32) (a_text : Nat → Int32) : Int32 :=
  mX8_ownWord_3 n_text v_from v_end a_text 24 0
set_option maxRecDepth 100000 in
set_option maxHeartbeats 1500000 in
theorem kX8_ownWord (l : Launch) (n_text : Nat) (v_from : Int32) (v_end : Int32) (f_fault : Int32) (f_place : Int32) (f_tokens : Int32) (f_now : Int32) (f_kind : Int32) (f_start : Int32) (f_value : Int32) (f_open : Int32) (f_topic : Int32) (f_trainDue : Bool) (a_text : Nat → Int32) (hn_text : n_text < 2 ^ 31) : xMet l 5 yX8_ownWord cX8_ownWord 9 (some .int) [.ref 0, .ref 1000, .int v_from, .int v_end] (mcX8_ownWord n_text f_fault f_place f_tokens f_now f_kind f_start f_value f_open f_topic f_trainDue a_text) (meX8_ownWord n_text f_fault f_place f_tokens f_now f_kind f_start f_value f_open f_topic f_trainDue a_text (mX8_ownWord n_text v_from v_end a_text)) := by
  refine xMet_of cy_X8_ownWord [some (.ref 0), some (.ref 1000), some (.int v_from), some (.int v_end), none, none, none, none, none] rfl (Nat.le_of_ble_eq_true rfl) (fun X K => ?_)
  have J49 : ∀ (i16 : Nat) (i3 : Nat) (x5_16 : Int32) (K16 : Int32 → Int32) (hK16 : ∀ (zx5_16 : Int32), xR X (meX8_ownWord n_text f_fault f_place f_tokens f_now f_kind f_start f_value f_open f_topic f_trainDue a_text (K16 zx5_16)) 16 [none, some (.ref 1000), some (.int v_from), some (.int v_end), some (.int (nI i3)), some (.int zx5_16), some (.int (nI (i16 + 1))), none, none] [] (mcX8_ownWord n_text f_fault f_place f_tokens f_now f_kind f_start f_value f_open f_topic f_trainDue a_text)) (s0_49 : Int32) (g0_49 : i16 < 6) (g1_49 : i3 < 24) (g2_49 : n_text < 2 ^ 31) (g3_49 : ¬ x5_16 = 0), xR X (meX8_ownWord n_text f_fault f_place f_tokens f_now f_kind f_start f_value f_open f_topic f_trainDue a_text (mX8_ownWord_49 i16 i3 K16 s0_49)) 49 [none, some (.ref 1000), some (.int v_from), some (.int v_end), some (.int (nI i3)), none, some (.int (nI i16)), none, none] [.int s0_49] (mcX8_ownWord n_text f_fault f_place f_tokens f_now f_kind f_start f_value f_open f_topic f_trainDue a_text) := by
    intro i16 i3 x5_16 K16 hK16 s0_49 g0_49 g1_49 g2_49 g3_49
    refine xR_st K pq_X8_ownWord 8 (pc' := 63) (L' := [none, some (.ref 1000), some (.int v_from), some (.int v_end), some (.int (nI i3)), none, some (.int (nI i16)), some (.int s0_49), some (.int (((nI i3) * 6) + (nI i16)))]) (S' := [.int (((nI i3) * 6) + (nI i16))]) (C' := mcX8_ownWord n_text f_fault f_place f_tokens f_now f_kind f_start f_value f_open f_topic f_trainDue a_text) rfl trivial ?_
    refine xR_strlen K pq_X8_ownWord dstX8_ownWord_63 rfl (Nat.le_of_ble_eq_true rfl) (by decide) ?_
    refine xR_i2 (enc := meX8_ownWord n_text f_fault f_place f_tokens f_now f_kind f_start f_value f_open f_topic f_trainDue a_text) (q1 := 71) (q2 := 87) K pq_X8_ownWord rfl rfl rfl rfl (fun h4 => ?_) (fun h4 => ?_)
    · refine xR_strch K pq_X8_ownWord dstX8_ownWord_71 (xin_nat (x := ((nI i3) * 6) + (nI i16)) (a := (i3 * 6) + i16) (xn_add (xn_mul rfl rfl) rfl) (by omega) (by first | assumption | decide)) rfl rfl rfl (Nat.le_of_ble_eq_true rfl) (by decide) ?_
      refine xR_st K pq_X8_ownWord 1 (pc' := 80) (L' := [none, some (.ref 1000), some (.int v_from), some (.int v_end), some (.int (nI i3)), none, some (.int (nI i16)), some (.int s0_49), some (.int (((nI i3) * 6) + (nI i16)))]) (S' := [.int s0_49, .int (xow (((nI i3) * 6) + (nI i16)))]) (C' := mcX8_ownWord n_text f_fault f_place f_tokens f_now f_kind f_start f_value f_open f_topic f_trainDue a_text) rfl trivial ?_
      refine xR_i2 (enc := meX8_ownWord n_text f_fault f_place f_tokens f_now f_kind f_start f_value f_open f_topic f_trainDue a_text) (q1 := 83) (q2 := 87) K pq_X8_ownWord rfl rfl rfl rfl (fun h5 => ?_) (fun h5 => ?_)
      · refine xR_st K pq_X8_ownWord 5 (pc' := 16) (L' := [none, some (.ref 1000), some (.int v_from), some (.int v_end), some (.int (nI i3)), some (.int 1), some (.int ((nI i16) + 1)), some (.int s0_49), some (.int (((nI i3) * 6) + (nI i16)))]) (S' := []) (C' := mcX8_ownWord n_text f_fault f_place f_tokens f_now f_kind f_start f_value f_open f_topic f_trainDue a_text) rfl trivial ?_
        exact xR_less2 (hK16 _) ⟨rfl, rfl, rfl, rfl, rfl, xcnt i16, trivial⟩
      · refine xR_st K pq_X8_ownWord 4 (pc' := 16) (L' := [none, some (.ref 1000), some (.int v_from), some (.int v_end), some (.int (nI i3)), some (.int 0), some (.int ((nI i16) + 1)), some (.int s0_49), some (.int (((nI i3) * 6) + (nI i16)))]) (S' := []) (C' := mcX8_ownWord n_text f_fault f_place f_tokens f_now f_kind f_start f_value f_open f_topic f_trainDue a_text) rfl trivial ?_
        exact xR_less2 (hK16 _) ⟨rfl, rfl, rfl, rfl, rfl, xcnt i16, trivial⟩
    · refine xR_st K pq_X8_ownWord 4 (pc' := 16) (L' := [none, some (.ref 1000), some (.int v_from), some (.int v_end), some (.int (nI i3)), some (.int 0), some (.int ((nI i16) + 1)), some (.int s0_49), some (.int (((nI i3) * 6) + (nI i16)))]) (S' := []) (C' := mcX8_ownWord n_text f_fault f_place f_tokens f_now f_kind f_start f_value f_open f_topic f_trainDue a_text) rfl trivial ?_
      exact xR_less2 (hK16 _) ⟨rfl, rfl, rfl, rfl, rfl, xcnt i16, trivial⟩
  have J16 : ∀ (i3 : Nat) (K3 : Int32) (hK3 : xR X (meX8_ownWord n_text f_fault f_place f_tokens f_now f_kind f_start f_value f_open f_topic f_trainDue a_text K3) 3 [none, some (.ref 1000), some (.int v_from), some (.int v_end), some (.int (nI (i3 + 1))), none, none, none, none] [] (mcX8_ownWord n_text f_fault f_place f_tokens f_now f_kind f_start f_value f_open f_topic f_trainDue a_text)) (k16 i16 : Nat) (x5_16 : Int32) (hik16 : i16 + k16 = 6) (g0_16 : i3 < 24) (g1_16 : n_text < 2 ^ 31), xR X (meX8_ownWord n_text f_fault f_place f_tokens f_now f_kind f_start f_value f_open f_topic f_trainDue a_text (mX8_ownWord_16 n_text v_from v_end a_text i3 K3 k16 i16 x5_16)) 16 [none, some (.ref 1000), some (.int v_from), some (.int v_end), some (.int (nI i3)), some (.int x5_16), some (.int (nI i16)), none, none] [] (mcX8_ownWord n_text f_fault f_place f_tokens f_now f_kind f_start f_value f_open f_topic f_trainDue a_text) := by
    intro i3 K3 hK3 k16
    induction k16 with
    | zero =>
      intro i16 x5_16 hik16 g0_16 g1_16
      rw [mX8_ownWord_16.eq_1]
      refine xR_st K pq_X8_ownWord 2 (pc' := 20) (L' := [none, some (.ref 1000), some (.int v_from), some (.int v_end), some (.int (nI i3)), some (.int x5_16), some (.int (nI i16)), none, none]) (S' := [.int 6, .int (nI i16)]) (C' := mcX8_ownWord n_text f_fault f_place f_tokens f_now f_kind f_start f_value f_open f_topic f_trainDue a_text) rfl trivial ?_
      refine xR_if2 K pq_X8_ownWord rfl ⟨rfl, rfl⟩ (fun _ => ?_) (fun hx => absurd hx (xlt_no 6 hik16 (by first | assumption | decide)))
      refine xR_st K pq_X8_ownWord 1 (pc' := 98) (L' := [none, some (.ref 1000), some (.int v_from), some (.int v_end), some (.int (nI i3)), some (.int x5_16), some (.int (nI i16)), none, none]) (S' := [.int x5_16]) (C' := mcX8_ownWord n_text f_fault f_place f_tokens f_now f_kind f_start f_value f_open f_topic f_trainDue a_text) rfl trivial ?_
      refine xR_i0 (enc := meX8_ownWord n_text f_fault f_place f_tokens f_now f_kind f_start f_value f_open f_topic f_trainDue a_text) (q1 := 104) (q2 := 101) K pq_X8_ownWord rfl rfl rfl rfl (fun h3 => ?_) (fun h3 => ?_)
      · refine xR_st K pq_X8_ownWord 2 (pc' := 3) (L' := [none, some (.ref 1000), some (.int v_from), some (.int v_end), some (.int ((nI i3) + 1)), some (.int x5_16), some (.int (nI i16)), none, none]) (S' := []) (C' := mcX8_ownWord n_text f_fault f_place f_tokens f_now f_kind f_start f_value f_open f_topic f_trainDue a_text) rfl trivial ?_
        exact xR_less2 (hK3) ⟨rfl, rfl, rfl, xcnt i3, trivial⟩
      · refine xR_st K pq_X8_ownWord 1 (pc' := 103) (L' := [none, some (.ref 1000), some (.int v_from), some (.int v_end), some (.int (nI i3)), some (.int x5_16), some (.int (nI i16)), none, none]) (S' := [.int (nI i3)]) (C' := mcX8_ownWord n_text f_fault f_place f_tokens f_now f_kind f_start f_value f_open f_topic f_trainDue a_text) rfl trivial ?_
        exact xR_ret K pq_X8_ownWord rfl
    | succ k16 ih =>
      intro i16 x5_16 hik16 g0_16 g1_16
      rw [mX8_ownWord_16.eq_2]
      refine xR_st K pq_X8_ownWord 2 (pc' := 20) (L' := [none, some (.ref 1000), some (.int v_from), some (.int v_end), some (.int (nI i3)), some (.int x5_16), some (.int (nI i16)), none, none]) (S' := [.int 6, .int (nI i16)]) (C' := mcX8_ownWord n_text f_fault f_place f_tokens f_now f_kind f_start f_value f_open f_topic f_trainDue a_text) rfl trivial ?_
      refine xR_if2 K pq_X8_ownWord rfl ⟨rfl, rfl⟩ (fun hx => absurd (xlt_yes 6 hik16 (by first | assumption | decide)) hx) (fun _ => ?_)
      refine xR_st K pq_X8_ownWord 1 (pc' := 25) (L' := [none, some (.ref 1000), some (.int v_from), some (.int v_end), some (.int (nI i3)), some (.int x5_16), some (.int (nI i16)), none, none]) (S' := [.int x5_16]) (C' := mcX8_ownWord n_text f_fault f_place f_tokens f_now f_kind f_start f_value f_open f_topic f_trainDue a_text) rfl trivial ?_
      refine xR_i0 (enc := meX8_ownWord n_text f_fault f_place f_tokens f_now f_kind f_start f_value f_open f_topic f_trainDue a_text) (q1 := 96) (q2 := 28) K pq_X8_ownWord rfl rfl rfl rfl (fun h1 => ?_) (fun h1 => ?_)
      · refine xR_st K pq_X8_ownWord 1 (pc' := 98) (L' := [none, some (.ref 1000), some (.int v_from), some (.int v_end), some (.int (nI i3)), some (.int x5_16), some (.int (nI i16)), none, none]) (S' := [.int x5_16]) (C' := mcX8_ownWord n_text f_fault f_place f_tokens f_now f_kind f_start f_value f_open f_topic f_trainDue a_text) rfl trivial ?_
        refine xR_if0 K pq_X8_ownWord rfl ⟨rfl, rfl⟩ (fun _ => ?_) (fun hx => absurd h1 hx)
        refine xR_st K pq_X8_ownWord 2 (pc' := 3) (L' := [none, some (.ref 1000), some (.int v_from), some (.int v_end), some (.int ((nI i3) + 1)), some (.int x5_16), some (.int (nI i16)), none, none]) (S' := []) (C' := mcX8_ownWord n_text f_fault f_place f_tokens f_now f_kind f_start f_value f_open f_topic f_trainDue a_text) rfl trivial ?_
        exact xR_less2 (hK3) ⟨rfl, rfl, rfl, xcnt i3, trivial⟩
      · refine xR_st K pq_X8_ownWord 4 (pc' := 33) (L' := [none, some (.ref 1000), some (.int v_from), some (.int v_end), some (.int (nI i3)), some (.int x5_16), some (.int (nI i16)), none, none]) (S' := [.int v_end, .int (v_from + (nI i16))]) (C' := mcX8_ownWord n_text f_fault f_place f_tokens f_now f_kind f_start f_value f_open f_topic f_trainDue a_text) rfl trivial ?_
        refine xR_i2 (enc := meX8_ownWord n_text f_fault f_place f_tokens f_now f_kind f_start f_value f_open f_topic f_trainDue a_text) (q1 := 36) (q2 := 47) K pq_X8_ownWord rfl rfl rfl rfl (fun h2 => ?_) (fun h2 => ?_)
        · refine xR_st K pq_X8_ownWord 4 (pc' := 41) (L' := [none, some (.ref 1000), some (.int v_from), some (.int v_end), some (.int (nI i3)), some (.int x5_16), some (.int (nI i16)), none, none]) (S' := [.int (v_from + (nI i16)), .ref 1000]) (C' := mcX8_ownWord n_text f_fault f_place f_tokens f_now f_kind f_start f_value f_open f_topic f_trainDue a_text) rfl trivial ?_
          refine xR_callS3 K pq_X8_ownWord rfl lk_X8_75 cy_X11_at ss_X11_at ar_X11_at (rest := []) (kX11_at l n_text (v_from + (nI i16)) a_text (by first | assumption | decide | omega)) (by decide) (by decide) (S2 := [.int (mX11_at n_text (v_from + (nI i16)) a_text)]) (C2 := mcX8_ownWord n_text f_fault f_place f_tokens f_now f_kind f_start f_value f_open f_topic f_trainDue a_text) (fun k => k - 1000 + 1000) [1] rfl rfl (Nat.le_of_ble_eq_true rfl) rfl (by decide) rfl rfl rfl ?_
          refine xR_st K pq_X8_ownWord 1 (pc' := 49) (L' := [none, some (.ref 1000), some (.int v_from), some (.int v_end), some (.int (nI i3)), some (.int x5_16), some (.int (nI i16)), none, none]) (S' := [.int (mX11_at n_text (v_from + (nI i16)) a_text)]) (C' := mcX8_ownWord n_text f_fault f_place f_tokens f_now f_kind f_start f_value f_open f_topic f_trainDue a_text) rfl trivial ?_
          exact xR_less2 (J49 i16 i3 x5_16 _ (fun zx5_16 => ih (i16 + 1) zx5_16 (by omega) g0_16 g1_16) _ (by omega) g0_16 g1_16 h1) ⟨rfl, rfl, rfl, rfl, rfl, trivial⟩
        · refine xR_st K pq_X8_ownWord 1 (pc' := 49) (L' := [none, some (.ref 1000), some (.int v_from), some (.int v_end), some (.int (nI i3)), some (.int x5_16), some (.int (nI i16)), none, none]) (S' := [.int 32]) (C' := mcX8_ownWord n_text f_fault f_place f_tokens f_now f_kind f_start f_value f_open f_topic f_trainDue a_text) rfl trivial ?_
          exact xR_less2 (J49 i16 i3 x5_16 _ (fun zx5_16 => ih (i16 + 1) zx5_16 (by omega) g0_16 g1_16) _ (by omega) g0_16 g1_16 h1) ⟨rfl, rfl, rfl, rfl, rfl, trivial⟩
  have J3 : ∀ (k3 i3 : Nat) (hik3 : i3 + k3 = 24) (g0_3 : n_text < 2 ^ 31), xR X (meX8_ownWord n_text f_fault f_place f_tokens f_now f_kind f_start f_value f_open f_topic f_trainDue a_text (mX8_ownWord_3 n_text v_from v_end a_text k3 i3)) 3 [none, some (.ref 1000), some (.int v_from), some (.int v_end), some (.int (nI i3)), none, none, none, none] [] (mcX8_ownWord n_text f_fault f_place f_tokens f_now f_kind f_start f_value f_open f_topic f_trainDue a_text) := by
    intro k3
    induction k3 with
    | zero =>
      intro i3 hik3 g0_3
      rw [mX8_ownWord_3.eq_1]
      refine xR_st K pq_X8_ownWord 2 (pc' := 7) (L' := [none, some (.ref 1000), some (.int v_from), some (.int v_end), some (.int (nI i3)), none, none, none, none]) (S' := [.int 24, .int (nI i3)]) (C' := mcX8_ownWord n_text f_fault f_place f_tokens f_now f_kind f_start f_value f_open f_topic f_trainDue a_text) rfl trivial ?_
      refine xR_if2 K pq_X8_ownWord rfl ⟨rfl, rfl⟩ (fun _ => ?_) (fun hx => absurd hx (xlt_no 24 hik3 (by first | assumption | decide)))
      refine xR_st K pq_X8_ownWord 1 (pc' := 111) (L' := [none, some (.ref 1000), some (.int v_from), some (.int v_end), some (.int (nI i3)), none, none, none, none]) (S' := [.int (-1)]) (C' := mcX8_ownWord n_text f_fault f_place f_tokens f_now f_kind f_start f_value f_open f_topic f_trainDue a_text) rfl trivial ?_
      exact xR_ret K pq_X8_ownWord rfl
    | succ k3 ih =>
      intro i3 hik3 g0_3
      rw [mX8_ownWord_3.eq_2]
      refine xR_st K pq_X8_ownWord 2 (pc' := 7) (L' := [none, some (.ref 1000), some (.int v_from), some (.int v_end), some (.int (nI i3)), none, none, none, none]) (S' := [.int 24, .int (nI i3)]) (C' := mcX8_ownWord n_text f_fault f_place f_tokens f_now f_kind f_start f_value f_open f_topic f_trainDue a_text) rfl trivial ?_
      refine xR_if2 K pq_X8_ownWord rfl ⟨rfl, rfl⟩ (fun hx => absurd (xlt_yes 24 hik3 (by first | assumption | decide)) hx) (fun _ => ?_)
      refine xR_st K pq_X8_ownWord 4 (pc' := 16) (L' := [none, some (.ref 1000), some (.int v_from), some (.int v_end), some (.int (nI i3)), some (.int 1), some (.int 0), none, none]) (S' := []) (C' := mcX8_ownWord n_text f_fault f_place f_tokens f_now f_kind f_start f_value f_open f_topic f_trainDue a_text) rfl trivial ?_
      exact xR_less2 (J16 i3 _ (ih (i3 + 1)  (by omega) g0_3) _ _ _ (by first | rfl | omega) (by omega) g0_3) ⟨rfl, rfl, rfl, rfl, rfl, rfl, trivial⟩
  refine xR_st K pq_X8_ownWord 2 (pc' := 3) (L' := [some (.ref 0), some (.ref 1000), some (.int v_from), some (.int v_end), some (.int 0), none, none, none, none]) (S' := []) (C' := mcX8_ownWord n_text f_fault f_place f_tokens f_now f_kind f_start f_value f_open f_topic f_trainDue a_text) rfl trivial ?_
  exact xR_less2 (J3 _ _ (by first | rfl | omega) hn_text) ⟨rfl, rfl, rfl, rfl, trivial⟩
def pg_X8_cutWord : xPg := [(0, .iload_n 3, .null), (1, .istore 4, .null), (3, .iconst 0, .int 0), (4, .istore 5, .null), (6, .iconst 0, .int 0), (7, .istore 6, .null), (9, .iload 6, .null), (11, .bipush 6, .int 6), (13, .if_icmp .ge 77, .retAddr 90), (16, .iload 4, .null), (18, .iload_n 2, .null), (19, .if_icmp .ge 19, .retAddr 38), (22, .aload_n 1, .null), (23, .iload 4, .null), (25, .invokestatic 75, .null), (28, .invokestatic 91, .null), (31, .ifCond .eq 7, .retAddr 38), (34, .iconst 1, .int 1), (35, .goto 4, .retAddr 39), (38, .iconst 0, .int 0), (39, .istore 7, .null), (41, .iload 5, .null), (43, .bipush 27, .int 27), (45, .imul, .null), (46, .iload 7, .null), (48, .ifCond .eq 17, .retAddr 65), (51, .aload_n 1, .null), (52, .iload 4, .null), (54, .invokestatic 75, .null), (57, .bipush 97, .int 97), (59, .isub, .null), (60, .iconst 1, .int 1), (61, .iadd, .null), (62, .goto 4, .retAddr 66), (65, .iconst 0, .int 0), (66, .iadd, .null), (67, .istore 5, .null), (69, .iload 4, .null), (71, .iload 7, .null), (73, .ifCond .eq 7, .retAddr 80), (76, .iconst 1, .int 1), (77, .goto 4, .retAddr 81), (80, .iconst 0, .int 0), (81, .iadd, .null), (82, .istore 4, .null), (84, .iinc 6 1, .int 1), (87, .goto (-78), .retAddr 9), (90, .iload 4, .null), (92, .iload_n 2, .null), (93, .if_icmp .ge 25, .retAddr 118), (96, .aload_n 1, .null), (97, .iload 4, .null), (99, .invokestatic 75, .null), (102, .invokestatic 91, .null), (105, .ifCond .eq 13, .retAddr 118), (108, .aload_n 0, .null), (109, .iconst 1, .int 1), (110, .iload_n 3, .null), (111, .iload 4, .null), (113, .invokevirtual 87, .null), (116, .iload_n 2, .null), (117, .ireturn, .null), (118, .aload_n 0, .null), (119, .aload_n 1, .null), (120, .iload_n 3, .null), (121, .iload 4, .null), (123, .invokevirtual 103, .null), (126, .istore 6, .null), (128, .aload_n 0, .null), (129, .iload 6, .null), (131, .iconst (-1), .int (-1)), (132, .if_icmp .ne 7, .retAddr 139), (135, .iconst 3, .int 3), (136, .goto 4, .retAddr 140), (139, .iconst 4, .int 4), (140, .iload_n 3, .null), (141, .iload 6, .null), (143, .iconst (-1), .int (-1)), (144, .if_icmp .ne 8, .retAddr 152), (147, .iload 5, .null), (149, .goto 5, .retAddr 154), (152, .iload 6, .null), (154, .invokevirtual 87, .null), (157, .iload 4, .null), (159, .ireturn, .null)]
theorem pq_X8_cutWord : xPq RX8 cX8_cutWord tb_X8 pg_X8_cutWord := ⟨tab_X8, xPok_of (by decide +kernel)⟩
theorem cy_X8_cutWord : xCy yX8_cutWord cX8_cutWord 8 (some .int) := ⟨xtb_in (i := 721) (by decide +kernel) rfl, xtb_in (i := 154) (by decide +kernel) rfl, by decide +kernel, by decide +kernel⟩
theorem si_X8_cutWord : Cond.instanceMethod yX8_cutWord ∈ xtb ∧ Cond.selects yX8_cutWord.cls yX8_cutWord yX8_cutWord ∈ xtb := ⟨xtb_in (i := 720) (by decide +kernel) rfl, xtb_in (i := 6) (by decide +kernel) rfl⟩
theorem ar_X8_cutWord : xar yX8_cutWord 3 := by unfold xar; decide +kernel
def mcX8_cutWord (n_text : Nat) (f_fault : Int32) (f_place : Int32) (f_tokens : Int32) (f_now : Int32) (f_kind : Int32) (f_start : Int32) (f_value : Int32) (f_open : Int32) (f_topic : Int32) (f_trainDue : Bool) (a_kinds : Nat → Int32) (a_starts : Nat → Int32) (a_values : Nat → Int32) (a_text : Nat → Int32) : xC := [(0, .inr (8, [.ref 1, .ref 2, .ref 3, .int f_fault, .int f_place, .ref 4, .int f_tokens, .int f_now, .int f_kind, .int f_start, .int f_value, .int f_open, .int f_topic, .int (xb f_trainDue)])), (1, .inl (0, 1601, .inl a_kinds)), (2, .inl (0, 1601, .inl a_starts)), (3, .inl (0, 1601, .inl a_values)), (1000, .inl (0, n_text, .inl a_text))]
def meX8_cutWord (n_text : Nat) (f_fault : Int32) (f_place : Int32) (f_tokens : Int32) (f_now : Int32) (f_kind : Int32) (f_start : Int32) (f_value : Int32) (f_open : Int32) (f_topic : Int32) (f_trainDue : Bool) (a_kinds : Nat → Int32) (a_starts : Nat → Int32) (a_values : Nat → Int32) (a_text : Nat → Int32) : Int32 × Int32 × (Nat → Int32) × (Nat → Int32) × (Nat → Int32) → xRes := fun r => some (some (.int (r.1)), mcX8_cutWord n_text f_fault f_place r.2.1 f_now f_kind f_start f_value f_open f_topic f_trainDue r.2.2.1 r.2.2.2.1 r.2.2.2.2 a_text)
def mX8_cutWord_140 (v_from : Int32) (f_tokens : Int32) (a_kinds : Nat → Int32) (a_starts : Nat → Int32) (a_values : Nat → Int32)  (x4_140 : Int32) (x5_140 : Int32) (x6_140 : Int32) (s0_140 : Int32) : Int32 × Int32 × (Nat → Int32) × (Nat → Int32) × (Nat → Int32) :=
  if x6_140 = (-1) then
    xlet (mX8_addToken s0_140 v_from x5_140 f_tokens a_kinds a_starts a_values) (xu fun q10_1 => xu fun q10_2 => xu fun q10_3 => fun q10_4 =>
      (x4_140, q10_1, q10_2, q10_3, q10_4))
  else
    xlet (mX8_addToken s0_140 v_from x6_140 f_tokens a_kinds a_starts a_values) (xu fun q11_1 => xu fun q11_2 => xu fun q11_3 => fun q11_4 =>
      (x4_140, q11_1, q11_2, q11_3, q11_4))
def mX8_cutWord_118 (n_text : Nat) (v_from : Int32) (f_tokens : Int32) (a_kinds : Nat → Int32) (a_starts : Nat → Int32) (a_values : Nat → Int32) (a_text : Nat → Int32)  (x4_118 : Int32) (x5_118 : Int32) : Int32 × Int32 × (Nat → Int32) × (Nat → Int32) × (Nat → Int32) :=
  if (mX8_ownWord n_text v_from x4_118 a_text) = (-1) then
    mX8_cutWord_140 v_from f_tokens a_kinds a_starts a_values x4_118 x5_118 (mX8_ownWord n_text v_from x4_118 a_text) (3 : Int32)
  else
    mX8_cutWord_140 v_from f_tokens a_kinds a_starts a_values x4_118 x5_118 (mX8_ownWord n_text v_from x4_118 a_text) (4 : Int32)
def mX8_cutWord_66 (x4_9 : Int32) (x5_9 : Int32) (K9 : Int32 → Int32 → Int32 × Int32 × (Nat → Int32) × (Nat → Int32) × (Nat → Int32)) (x7_66 : Int32) (s0_66 : Int32) : Int32 × Int32 × (Nat → Int32) × (Nat → Int32) × (Nat → Int32) :=
  if x7_66 = 0 then
    K9 (x4_9 + 0) ((x5_9 * 27) + s0_66)
  else
    K9 (x4_9 + 1) ((x5_9 * 27) + s0_66)
def mX8_cutWord_39 (n_text : Nat) (a_text : Nat → Int32) (x4_9 : Int32) (x5_9 : Int32) (K9 : Int32 → Int32 → Int32 × Int32 × (Nat → Int32) × (Nat → Int32) × (Nat → Int32)) (s0_39 : Int32) : Int32 × Int32 × (Nat → Int32) × (Nat → Int32) × (Nat → Int32) :=
  if s0_39 = 0 then
    mX8_cutWord_66 x4_9 x5_9 K9 s0_39 (0 : Int32)
  else
    mX8_cutWord_66 x4_9 x5_9 K9 s0_39 (((mX11_at n_text x4_9 a_text) - 97) + 1)
def mX8_cutWord_38 (n_text : Nat) (a_text : Nat → Int32) (x4_9 : Int32) (x5_9 : Int32) (K9 : Int32 → Int32 → Int32 × Int32 × (Nat → Int32) × (Nat → Int32) × (Nat → Int32))  : Int32 × Int32 × (Nat → Int32) × (Nat → Int32) × (Nat → Int32) :=
  mX8_cutWord_39 n_text a_text x4_9 x5_9 K9 (0 : Int32)
def mX8_cutWord_9 (n_text : Nat) (v_length : Int32) (v_from : Int32) (f_tokens : Int32) (a_kinds : Nat → Int32) (a_starts : Nat → Int32) (a_values : Nat → Int32) (a_text : Nat → Int32)  : Nat → Nat → Int32 → Int32 → Int32 × Int32 × (Nat → Int32) × (Nat → Int32) × (Nat → Int32)
  | 0, i9, x4_9, x5_9 => if x4_9 < v_length then
      if (mX8_isLetter (mX11_at n_text x4_9 a_text)) = true then
        xlet (mX8_addToken (1 : Int32) v_from x4_9 f_tokens a_kinds a_starts a_values) (xu fun q5_1 => xu fun q5_2 => xu fun q5_3 => fun q5_4 =>
          (v_length, q5_1, q5_2, q5_3, q5_4))
      else
        mX8_cutWord_118 n_text v_from f_tokens a_kinds a_starts a_values a_text x4_9 x5_9
    else
      mX8_cutWord_118 n_text v_from f_tokens a_kinds a_starts a_values a_text x4_9 x5_9
  | k9 + 1, i9, x4_9, x5_9 =>
    if x4_9 < v_length then
      if (mX8_isLetter (mX11_at n_text x4_9 a_text)) = true then
        mX8_cutWord_39 n_text a_text x4_9 x5_9 (fun zx4_9 zx5_9 => mX8_cutWord_9 n_text v_length v_from f_tokens a_kinds a_starts a_values a_text k9 (i9 + 1) zx4_9 zx5_9) (1 : Int32)
      else
        mX8_cutWord_38 n_text a_text x4_9 x5_9 (fun zx4_9 zx5_9 => mX8_cutWord_9 n_text v_length v_from f_tokens a_kinds a_starts a_values a_text k9 (i9 + 1) zx4_9 zx5_9)
    else
      mX8_cutWord_38 n_text a_text x4_9 x5_9 (fun zx4_9 zx5_9 => mX8_cutWord_9 n_text v_length v_from f_tokens a_kinds a_starts a_values a_text k9 (i9 + 1) zx4_9 zx5_9)
def mX8_cutWord (n_text : Nat) (v_length : Int32) (v_from : Int32) (f_tokens : Int32) (a_kinds : Nat → Int32) (a_starts : Nat → Int32) (a_values : Nat → Int32) (a_text : Nat → Int32) : Int32 × Int32 × (Nat → Int32) × (Nat → Int32) × (Nat → Int32) :=
  mX8_cutWord_9 n_text v_length v_from f_tokens a_kinds a_starts a_values a_text 6 0 v_from (0 : Int32)
set_option maxRecDepth 100000 in
set_option maxHeartbeats 1500000 in
theorem kX8_cutWord (l : Launch) (n_text : Nat) (v_length : Int32) (v_from : Int32) (f_fault : Int32) (f_place : Int32) (f_tokens : Int32) (f_now : Int32) (f_kind : Int32) (f_start : Int32) (f_value : Int32) (f_open : Int32) (f_topic : Int32) (f_trainDue : Bool) (a_kinds : Nat → Int32) (a_starts : Nat → Int32) (a_values : Nat → Int32) (a_text : Nat → Int32) (hn_text : n_text < 2 ^ 31) : xMet l 6 yX8_cutWord cX8_cutWord 8 (some .int) [.ref 0, .ref 1000, .int v_length, .int v_from] (mcX8_cutWord n_text f_fault f_place f_tokens f_now f_kind f_start f_value f_open f_topic f_trainDue a_kinds a_starts a_values a_text) (meX8_cutWord n_text f_fault f_place f_tokens f_now f_kind f_start f_value f_open f_topic f_trainDue a_kinds a_starts a_values a_text (mX8_cutWord n_text v_length v_from f_tokens a_kinds a_starts a_values a_text)) := by
  refine xMet_of cy_X8_cutWord [some (.ref 0), some (.ref 1000), some (.int v_length), some (.int v_from), none, none, none, none] rfl (Nat.le_of_ble_eq_true rfl) (fun X K => ?_)
  have J140 : ∀ (x4_140 : Int32) (x5_140 : Int32) (x6_140 : Int32) (s0_140 : Int32) (g0_140 : n_text < 2 ^ 31), xR X (meX8_cutWord n_text f_fault f_place f_tokens f_now f_kind f_start f_value f_open f_topic f_trainDue a_kinds a_starts a_values a_text (mX8_cutWord_140 v_from f_tokens a_kinds a_starts a_values x4_140 x5_140 x6_140 s0_140)) 140 [none, none, none, some (.int v_from), some (.int x4_140), some (.int x5_140), some (.int x6_140), none] [.int s0_140, .ref 0] (mcX8_cutWord n_text f_fault f_place f_tokens f_now f_kind f_start f_value f_open f_topic f_trainDue a_kinds a_starts a_values a_text) := by
    intro x4_140 x5_140 x6_140 s0_140 g0_140
    refine xR_st K pq_X8_cutWord 3 (pc' := 144) (L' := [none, none, none, some (.int v_from), some (.int x4_140), some (.int x5_140), some (.int x6_140), none]) (S' := [.int (-1), .int x6_140, .int v_from, .int s0_140, .ref 0]) (C' := mcX8_cutWord n_text f_fault f_place f_tokens f_now f_kind f_start f_value f_open f_topic f_trainDue a_kinds a_starts a_values a_text) rfl trivial ?_
    refine xR_i2 (enc := meX8_cutWord n_text f_fault f_place f_tokens f_now f_kind f_start f_value f_open f_topic f_trainDue a_kinds a_starts a_values a_text) (q1 := 147) (q2 := 152) K pq_X8_cutWord rfl rfl rfl rfl (fun h9 => ?_) (fun h9 => ?_)
    · refine xR_st K pq_X8_cutWord 2 (pc' := 154) (L' := [none, none, none, some (.int v_from), some (.int x4_140), some (.int x5_140), some (.int x6_140), none]) (S' := [.int x5_140, .int v_from, .int s0_140, .ref 0]) (C' := mcX8_cutWord n_text f_fault f_place f_tokens f_now f_kind f_start f_value f_open f_topic f_trainDue a_kinds a_starts a_values a_text) rfl trivial ?_
      refine xR_let (enc := meX8_cutWord n_text f_fault f_place f_tokens f_now f_kind f_start f_value f_open f_topic f_trainDue a_kinds a_starts a_values a_text) (fun q10 hq10 => ?_)
      obtain ⟨q10_1, q10_2, q10_3, q10_4⟩ := q10
      iterate 3 refine xR_u (enc := meX8_cutWord n_text f_fault f_place f_tokens f_now f_kind f_start f_value f_open f_topic f_trainDue a_kinds a_starts a_values a_text) ?_
      have hMq10 := kX8_addToken l s0_140 v_from x5_140 f_fault f_place f_tokens f_now f_kind f_start f_value f_open f_topic f_trainDue a_kinds a_starts a_values
      rw [← hq10] at hMq10
      refine xR_callV3 K pq_X8_cutWord rfl lk_X8_87 cy_X8_addToken si_X8_addToken ar_X8_addToken (rest := []) hMq10 (by decide) (by decide) rfl rfl (S2 := []) (C2 := mcX8_cutWord n_text f_fault f_place q10_1 f_now f_kind f_start f_value f_open f_topic f_trainDue q10_2 q10_3 q10_4 a_text) id [0, 1, 2, 3] rfl rfl (Nat.le_of_ble_eq_true rfl) rfl (by decide) rfl rfl rfl ?_
      refine xR_st K pq_X8_cutWord 1 (pc' := 159) (L' := [none, none, none, some (.int v_from), some (.int x4_140), some (.int x5_140), some (.int x6_140), none]) (S' := [.int x4_140]) (C' := mcX8_cutWord n_text f_fault f_place q10_1 f_now f_kind f_start f_value f_open f_topic f_trainDue q10_2 q10_3 q10_4 a_text) rfl trivial ?_
      exact xR_ret K pq_X8_cutWord rfl
    · refine xR_st K pq_X8_cutWord 1 (pc' := 154) (L' := [none, none, none, some (.int v_from), some (.int x4_140), some (.int x5_140), some (.int x6_140), none]) (S' := [.int x6_140, .int v_from, .int s0_140, .ref 0]) (C' := mcX8_cutWord n_text f_fault f_place f_tokens f_now f_kind f_start f_value f_open f_topic f_trainDue a_kinds a_starts a_values a_text) rfl trivial ?_
      refine xR_let (enc := meX8_cutWord n_text f_fault f_place f_tokens f_now f_kind f_start f_value f_open f_topic f_trainDue a_kinds a_starts a_values a_text) (fun q11 hq11 => ?_)
      obtain ⟨q11_1, q11_2, q11_3, q11_4⟩ := q11
      iterate 3 refine xR_u (enc := meX8_cutWord n_text f_fault f_place f_tokens f_now f_kind f_start f_value f_open f_topic f_trainDue a_kinds a_starts a_values a_text) ?_
      have hMq11 := kX8_addToken l s0_140 v_from x6_140 f_fault f_place f_tokens f_now f_kind f_start f_value f_open f_topic f_trainDue a_kinds a_starts a_values
      rw [← hq11] at hMq11
      refine xR_callV3 K pq_X8_cutWord rfl lk_X8_87 cy_X8_addToken si_X8_addToken ar_X8_addToken (rest := []) hMq11 (by decide) (by decide) rfl rfl (S2 := []) (C2 := mcX8_cutWord n_text f_fault f_place q11_1 f_now f_kind f_start f_value f_open f_topic f_trainDue q11_2 q11_3 q11_4 a_text) id [0, 1, 2, 3] rfl rfl (Nat.le_of_ble_eq_true rfl) rfl (by decide) rfl rfl rfl ?_
      refine xR_st K pq_X8_cutWord 1 (pc' := 159) (L' := [none, none, none, some (.int v_from), some (.int x4_140), some (.int x5_140), some (.int x6_140), none]) (S' := [.int x4_140]) (C' := mcX8_cutWord n_text f_fault f_place q11_1 f_now f_kind f_start f_value f_open f_topic f_trainDue q11_2 q11_3 q11_4 a_text) rfl trivial ?_
      exact xR_ret K pq_X8_cutWord rfl
  have J118 : ∀ (x4_118 : Int32) (x5_118 : Int32) (g1_118 : n_text < 2 ^ 31), xR X (meX8_cutWord n_text f_fault f_place f_tokens f_now f_kind f_start f_value f_open f_topic f_trainDue a_kinds a_starts a_values a_text (mX8_cutWord_118 n_text v_from f_tokens a_kinds a_starts a_values a_text x4_118 x5_118)) 118 [some (.ref 0), some (.ref 1000), none, some (.int v_from), some (.int x4_118), some (.int x5_118), none, none] [] (mcX8_cutWord n_text f_fault f_place f_tokens f_now f_kind f_start f_value f_open f_topic f_trainDue a_kinds a_starts a_values a_text) := by
    intro x4_118 x5_118 g1_118
    refine xR_st K pq_X8_cutWord 4 (pc' := 123) (L' := [some (.ref 0), some (.ref 1000), none, some (.int v_from), some (.int x4_118), some (.int x5_118), none, none]) (S' := [.int x4_118, .int v_from, .ref 1000, .ref 0]) (C' := mcX8_cutWord n_text f_fault f_place f_tokens f_now f_kind f_start f_value f_open f_topic f_trainDue a_kinds a_starts a_values a_text) rfl trivial ?_
    refine xR_callV3 K pq_X8_cutWord rfl lk_X8_103 cy_X8_ownWord si_X8_ownWord ar_X8_ownWord (rest := []) (kX8_ownWord l n_text v_from x4_118 f_fault f_place f_tokens f_now f_kind f_start f_value f_open f_topic f_trainDue a_text (by first | assumption | decide | omega)) (by decide) (by decide) rfl rfl (S2 := [.int (mX8_ownWord n_text v_from x4_118 a_text)]) (C2 := mcX8_cutWord n_text f_fault f_place f_tokens f_now f_kind f_start f_value f_open f_topic f_trainDue a_kinds a_starts a_values a_text) (fun k => cond (Nat.ble 1000 k) (k - 1000 + 1000) (k + 0)) [0, 4] rfl rfl (Nat.le_of_ble_eq_true rfl) rfl (by decide) rfl rfl rfl ?_
    refine xR_st K pq_X8_cutWord 4 (pc' := 132) (L' := [some (.ref 0), some (.ref 1000), none, some (.int v_from), some (.int x4_118), some (.int x5_118), some (.int (mX8_ownWord n_text v_from x4_118 a_text)), none]) (S' := [.int (-1), .int (mX8_ownWord n_text v_from x4_118 a_text), .ref 0]) (C' := mcX8_cutWord n_text f_fault f_place f_tokens f_now f_kind f_start f_value f_open f_topic f_trainDue a_kinds a_starts a_values a_text) rfl trivial ?_
    refine xR_i2 (enc := meX8_cutWord n_text f_fault f_place f_tokens f_now f_kind f_start f_value f_open f_topic f_trainDue a_kinds a_starts a_values a_text) (q1 := 135) (q2 := 139) K pq_X8_cutWord rfl rfl rfl rfl (fun h8 => ?_) (fun h8 => ?_)
    · refine xR_st K pq_X8_cutWord 2 (pc' := 140) (L' := [some (.ref 0), some (.ref 1000), none, some (.int v_from), some (.int x4_118), some (.int x5_118), some (.int (mX8_ownWord n_text v_from x4_118 a_text)), none]) (S' := [.int 3, .ref 0]) (C' := mcX8_cutWord n_text f_fault f_place f_tokens f_now f_kind f_start f_value f_open f_topic f_trainDue a_kinds a_starts a_values a_text) rfl trivial ?_
      exact xR_less2 (J140 _ _ _ _ g1_118) ⟨rfl, rfl, rfl, rfl, trivial⟩
    · refine xR_st K pq_X8_cutWord 1 (pc' := 140) (L' := [some (.ref 0), some (.ref 1000), none, some (.int v_from), some (.int x4_118), some (.int x5_118), some (.int (mX8_ownWord n_text v_from x4_118 a_text)), none]) (S' := [.int 4, .ref 0]) (C' := mcX8_cutWord n_text f_fault f_place f_tokens f_now f_kind f_start f_value f_open f_topic f_trainDue a_kinds a_starts a_values a_text) rfl trivial ?_
      exact xR_less2 (J140 _ _ _ _ g1_118) ⟨rfl, rfl, rfl, rfl, trivial⟩
  have J66 : ∀ (i9 : Nat) (x4_9 : Int32) (x5_9 : Int32) (K9 : Int32 → Int32 → Int32 × Int32 × (Nat → Int32) × (Nat → Int32) × (Nat → Int32)) (hK9 : ∀ (zx4_9 : Int32) (zx5_9 : Int32), xR X (meX8_cutWord n_text f_fault f_place f_tokens f_now f_kind f_start f_value f_open f_topic f_trainDue a_kinds a_starts a_values a_text (K9 zx4_9 zx5_9)) 9 [some (.ref 0), some (.ref 1000), some (.int v_length), some (.int v_from), some (.int zx4_9), some (.int zx5_9), some (.int (nI (i9 + 1))), none] [] (mcX8_cutWord n_text f_fault f_place f_tokens f_now f_kind f_start f_value f_open f_topic f_trainDue a_kinds a_starts a_values a_text)) (x7_66 : Int32) (s0_66 : Int32) (g0_66 : i9 < 6) (g1_66 : n_text < 2 ^ 31), xR X (meX8_cutWord n_text f_fault f_place f_tokens f_now f_kind f_start f_value f_open f_topic f_trainDue a_kinds a_starts a_values a_text (mX8_cutWord_66 x4_9 x5_9 K9 x7_66 s0_66)) 66 [some (.ref 0), some (.ref 1000), some (.int v_length), some (.int v_from), some (.int x4_9), none, some (.int (nI i9)), some (.int x7_66)] [.int s0_66, .int (x5_9 * 27)] (mcX8_cutWord n_text f_fault f_place f_tokens f_now f_kind f_start f_value f_open f_topic f_trainDue a_kinds a_starts a_values a_text) := by
    intro i9 x4_9 x5_9 K9 hK9 x7_66 s0_66 g0_66 g1_66
    refine xR_st K pq_X8_cutWord 4 (pc' := 73) (L' := [some (.ref 0), some (.ref 1000), some (.int v_length), some (.int v_from), some (.int x4_9), some (.int ((x5_9 * 27) + s0_66)), some (.int (nI i9)), some (.int x7_66)]) (S' := [.int x7_66, .int x4_9]) (C' := mcX8_cutWord n_text f_fault f_place f_tokens f_now f_kind f_start f_value f_open f_topic f_trainDue a_kinds a_starts a_values a_text) rfl trivial ?_
    refine xR_i0 (enc := meX8_cutWord n_text f_fault f_place f_tokens f_now f_kind f_start f_value f_open f_topic f_trainDue a_kinds a_starts a_values a_text) (q1 := 80) (q2 := 76) K pq_X8_cutWord rfl rfl rfl rfl (fun h7 => ?_) (fun h7 => ?_)
    · refine xR_st K pq_X8_cutWord 5 (pc' := 9) (L' := [some (.ref 0), some (.ref 1000), some (.int v_length), some (.int v_from), some (.int (x4_9 + 0)), some (.int ((x5_9 * 27) + s0_66)), some (.int ((nI i9) + 1)), some (.int x7_66)]) (S' := []) (C' := mcX8_cutWord n_text f_fault f_place f_tokens f_now f_kind f_start f_value f_open f_topic f_trainDue a_kinds a_starts a_values a_text) rfl trivial ?_
      exact xR_less2 (hK9 _ _) ⟨rfl, rfl, rfl, rfl, rfl, rfl, xcnt i9, trivial⟩
    · refine xR_st K pq_X8_cutWord 6 (pc' := 9) (L' := [some (.ref 0), some (.ref 1000), some (.int v_length), some (.int v_from), some (.int (x4_9 + 1)), some (.int ((x5_9 * 27) + s0_66)), some (.int ((nI i9) + 1)), some (.int x7_66)]) (S' := []) (C' := mcX8_cutWord n_text f_fault f_place f_tokens f_now f_kind f_start f_value f_open f_topic f_trainDue a_kinds a_starts a_values a_text) rfl trivial ?_
      exact xR_less2 (hK9 _ _) ⟨rfl, rfl, rfl, rfl, rfl, rfl, xcnt i9, trivial⟩
  have J39 : ∀ (i9 : Nat) (x4_9 : Int32) (x5_9 : Int32) (K9 : Int32 → Int32 → Int32 × Int32 × (Nat → Int32) × (Nat → Int32) × (Nat → Int32)) (hK9 : ∀ (zx4_9 : Int32) (zx5_9 : Int32), xR X (meX8_cutWord n_text f_fault f_place f_tokens f_now f_kind f_start f_value f_open f_topic f_trainDue a_kinds a_starts a_values a_text (K9 zx4_9 zx5_9)) 9 [some (.ref 0), some (.ref 1000), some (.int v_length), some (.int v_from), some (.int zx4_9), some (.int zx5_9), some (.int (nI (i9 + 1))), none] [] (mcX8_cutWord n_text f_fault f_place f_tokens f_now f_kind f_start f_value f_open f_topic f_trainDue a_kinds a_starts a_values a_text)) (s0_39 : Int32) (g0_39 : i9 < 6) (g1_39 : n_text < 2 ^ 31), xR X (meX8_cutWord n_text f_fault f_place f_tokens f_now f_kind f_start f_value f_open f_topic f_trainDue a_kinds a_starts a_values a_text (mX8_cutWord_39 n_text a_text x4_9 x5_9 K9 s0_39)) 39 [some (.ref 0), some (.ref 1000), some (.int v_length), some (.int v_from), some (.int x4_9), some (.int x5_9), some (.int (nI i9)), none] [.int s0_39] (mcX8_cutWord n_text f_fault f_place f_tokens f_now f_kind f_start f_value f_open f_topic f_trainDue a_kinds a_starts a_values a_text) := by
    intro i9 x4_9 x5_9 K9 hK9 s0_39 g0_39 g1_39
    refine xR_st K pq_X8_cutWord 5 (pc' := 48) (L' := [some (.ref 0), some (.ref 1000), some (.int v_length), some (.int v_from), some (.int x4_9), some (.int x5_9), some (.int (nI i9)), some (.int s0_39)]) (S' := [.int s0_39, .int (x5_9 * 27)]) (C' := mcX8_cutWord n_text f_fault f_place f_tokens f_now f_kind f_start f_value f_open f_topic f_trainDue a_kinds a_starts a_values a_text) rfl trivial ?_
    refine xR_i0 (enc := meX8_cutWord n_text f_fault f_place f_tokens f_now f_kind f_start f_value f_open f_topic f_trainDue a_kinds a_starts a_values a_text) (q1 := 65) (q2 := 51) K pq_X8_cutWord rfl rfl rfl rfl (fun h6 => ?_) (fun h6 => ?_)
    · refine xR_st K pq_X8_cutWord 1 (pc' := 66) (L' := [some (.ref 0), some (.ref 1000), some (.int v_length), some (.int v_from), some (.int x4_9), some (.int x5_9), some (.int (nI i9)), some (.int s0_39)]) (S' := [.int 0, .int (x5_9 * 27)]) (C' := mcX8_cutWord n_text f_fault f_place f_tokens f_now f_kind f_start f_value f_open f_topic f_trainDue a_kinds a_starts a_values a_text) rfl trivial ?_
      exact xR_less2 (J66 i9 x4_9 x5_9 _ hK9 _ _ g0_39 g1_39) ⟨rfl, rfl, rfl, rfl, rfl, rfl, rfl, trivial⟩
    · refine xR_st K pq_X8_cutWord 2 (pc' := 54) (L' := [some (.ref 0), some (.ref 1000), some (.int v_length), some (.int v_from), some (.int x4_9), some (.int x5_9), some (.int (nI i9)), some (.int s0_39)]) (S' := [.int x4_9, .ref 1000, .int (x5_9 * 27)]) (C' := mcX8_cutWord n_text f_fault f_place f_tokens f_now f_kind f_start f_value f_open f_topic f_trainDue a_kinds a_starts a_values a_text) rfl trivial ?_
      refine xR_callS3 K pq_X8_cutWord rfl lk_X8_75 cy_X11_at ss_X11_at ar_X11_at (rest := [.int (x5_9 * 27)]) (kX11_at l n_text x4_9 a_text (by first | assumption | decide | omega)) (by decide) (by decide) (S2 := [.int (mX11_at n_text x4_9 a_text), .int (x5_9 * 27)]) (C2 := mcX8_cutWord n_text f_fault f_place f_tokens f_now f_kind f_start f_value f_open f_topic f_trainDue a_kinds a_starts a_values a_text) (fun k => k - 1000 + 1000) [4] rfl rfl (Nat.le_of_ble_eq_true rfl) rfl (by decide) rfl rfl rfl ?_
      refine xR_st K pq_X8_cutWord 5 (pc' := 66) (L' := [some (.ref 0), some (.ref 1000), some (.int v_length), some (.int v_from), some (.int x4_9), some (.int x5_9), some (.int (nI i9)), some (.int s0_39)]) (S' := [.int (((mX11_at n_text x4_9 a_text) - 97) + 1), .int (x5_9 * 27)]) (C' := mcX8_cutWord n_text f_fault f_place f_tokens f_now f_kind f_start f_value f_open f_topic f_trainDue a_kinds a_starts a_values a_text) rfl trivial ?_
      exact xR_less2 (J66 i9 x4_9 x5_9 _ hK9 _ _ g0_39 g1_39) ⟨rfl, rfl, rfl, rfl, rfl, rfl, rfl, trivial⟩
  have J38 : ∀ (i9 : Nat) (x4_9 : Int32) (x5_9 : Int32) (K9 : Int32 → Int32 → Int32 × Int32 × (Nat → Int32) × (Nat → Int32) × (Nat → Int32)) (hK9 : ∀ (zx4_9 : Int32) (zx5_9 : Int32), xR X (meX8_cutWord n_text f_fault f_place f_tokens f_now f_kind f_start f_value f_open f_topic f_trainDue a_kinds a_starts a_values a_text (K9 zx4_9 zx5_9)) 9 [some (.ref 0), some (.ref 1000), some (.int v_length), some (.int v_from), some (.int zx4_9), some (.int zx5_9), some (.int (nI (i9 + 1))), none] [] (mcX8_cutWord n_text f_fault f_place f_tokens f_now f_kind f_start f_value f_open f_topic f_trainDue a_kinds a_starts a_values a_text)) (g0_38 : i9 < 6) (g1_38 : n_text < 2 ^ 31), xR X (meX8_cutWord n_text f_fault f_place f_tokens f_now f_kind f_start f_value f_open f_topic f_trainDue a_kinds a_starts a_values a_text (mX8_cutWord_38 n_text a_text x4_9 x5_9 K9)) 38 [some (.ref 0), some (.ref 1000), some (.int v_length), some (.int v_from), some (.int x4_9), some (.int x5_9), some (.int (nI i9)), none] [] (mcX8_cutWord n_text f_fault f_place f_tokens f_now f_kind f_start f_value f_open f_topic f_trainDue a_kinds a_starts a_values a_text) := by
    intro i9 x4_9 x5_9 K9 hK9 g0_38 g1_38
    refine xR_st K pq_X8_cutWord 1 (pc' := 39) (L' := [some (.ref 0), some (.ref 1000), some (.int v_length), some (.int v_from), some (.int x4_9), some (.int x5_9), some (.int (nI i9)), none]) (S' := [.int 0]) (C' := mcX8_cutWord n_text f_fault f_place f_tokens f_now f_kind f_start f_value f_open f_topic f_trainDue a_kinds a_starts a_values a_text) rfl trivial ?_
    exact xR_less2 (J39 i9 x4_9 x5_9 _ hK9 _ g0_38 g1_38) ⟨rfl, rfl, rfl, rfl, rfl, rfl, rfl, trivial⟩
  have J9 : ∀ (k9 i9 : Nat) (x4_9 : Int32) (x5_9 : Int32) (hik9 : i9 + k9 = 6) (g0_9 : n_text < 2 ^ 31), xR X (meX8_cutWord n_text f_fault f_place f_tokens f_now f_kind f_start f_value f_open f_topic f_trainDue a_kinds a_starts a_values a_text (mX8_cutWord_9 n_text v_length v_from f_tokens a_kinds a_starts a_values a_text k9 i9 x4_9 x5_9)) 9 [some (.ref 0), some (.ref 1000), some (.int v_length), some (.int v_from), some (.int x4_9), some (.int x5_9), some (.int (nI i9)), none] [] (mcX8_cutWord n_text f_fault f_place f_tokens f_now f_kind f_start f_value f_open f_topic f_trainDue a_kinds a_starts a_values a_text) := by
    intro k9
    induction k9 with
    | zero =>
      intro i9 x4_9 x5_9 hik9 g0_9
      rw [mX8_cutWord_9.eq_1]
      refine xR_st K pq_X8_cutWord 2 (pc' := 13) (L' := [some (.ref 0), some (.ref 1000), some (.int v_length), some (.int v_from), some (.int x4_9), some (.int x5_9), some (.int (nI i9)), none]) (S' := [.int 6, .int (nI i9)]) (C' := mcX8_cutWord n_text f_fault f_place f_tokens f_now f_kind f_start f_value f_open f_topic f_trainDue a_kinds a_starts a_values a_text) rfl trivial ?_
      refine xR_if2 K pq_X8_cutWord rfl ⟨rfl, rfl⟩ (fun _ => ?_) (fun hx => absurd hx (xlt_no 6 hik9 (by first | assumption | decide)))
      refine xR_st K pq_X8_cutWord 2 (pc' := 93) (L' := [some (.ref 0), some (.ref 1000), some (.int v_length), some (.int v_from), some (.int x4_9), some (.int x5_9), some (.int (nI i9)), none]) (S' := [.int v_length, .int x4_9]) (C' := mcX8_cutWord n_text f_fault f_place f_tokens f_now f_kind f_start f_value f_open f_topic f_trainDue a_kinds a_starts a_values a_text) rfl trivial ?_
      refine xR_i2 (enc := meX8_cutWord n_text f_fault f_place f_tokens f_now f_kind f_start f_value f_open f_topic f_trainDue a_kinds a_starts a_values a_text) (q1 := 96) (q2 := 118) K pq_X8_cutWord rfl rfl rfl rfl (fun h3 => ?_) (fun h3 => ?_)
      · refine xR_st K pq_X8_cutWord 2 (pc' := 99) (L' := [some (.ref 0), some (.ref 1000), some (.int v_length), some (.int v_from), some (.int x4_9), some (.int x5_9), some (.int (nI i9)), none]) (S' := [.int x4_9, .ref 1000]) (C' := mcX8_cutWord n_text f_fault f_place f_tokens f_now f_kind f_start f_value f_open f_topic f_trainDue a_kinds a_starts a_values a_text) rfl trivial ?_
        refine xR_callS3 K pq_X8_cutWord rfl lk_X8_75 cy_X11_at ss_X11_at ar_X11_at (rest := []) (kX11_at l n_text x4_9 a_text (by first | assumption | decide | omega)) (by decide) (by decide) (S2 := [.int (mX11_at n_text x4_9 a_text)]) (C2 := mcX8_cutWord n_text f_fault f_place f_tokens f_now f_kind f_start f_value f_open f_topic f_trainDue a_kinds a_starts a_values a_text) (fun k => k - 1000 + 1000) [4] rfl rfl (Nat.le_of_ble_eq_true rfl) rfl (by decide) rfl rfl rfl ?_
        refine xR_callS3 K pq_X8_cutWord rfl lk_X8_91 cy_X8_isLetter ss_X8_isLetter ar_X8_isLetter (rest := []) (kX8_isLetter l (mX11_at n_text x4_9 a_text)) (by decide) (by decide) (S2 := [.int (xb (mX8_isLetter (mX11_at n_text x4_9 a_text)))]) (C2 := mcX8_cutWord n_text f_fault f_place f_tokens f_now f_kind f_start f_value f_open f_topic f_trainDue a_kinds a_starts a_values a_text) id [] rfl rfl (Nat.le_of_ble_eq_true rfl) rfl (by decide) rfl rfl rfl ?_
        refine xR_ib (enc := meX8_cutWord n_text f_fault f_place f_tokens f_now f_kind f_start f_value f_open f_topic f_trainDue a_kinds a_starts a_values a_text) (q1 := 108) (q2 := 118) K pq_X8_cutWord rfl (by first | exact Or.inl rfl | exact Or.inr rfl) rfl rfl (fun h4 => ?_) (fun h4 => ?_)
        · refine xR_st K pq_X8_cutWord 4 (pc' := 113) (L' := [some (.ref 0), some (.ref 1000), some (.int v_length), some (.int v_from), some (.int x4_9), some (.int x5_9), some (.int (nI i9)), none]) (S' := [.int x4_9, .int v_from, .int 1, .ref 0]) (C' := mcX8_cutWord n_text f_fault f_place f_tokens f_now f_kind f_start f_value f_open f_topic f_trainDue a_kinds a_starts a_values a_text) rfl trivial ?_
          refine xR_let (enc := meX8_cutWord n_text f_fault f_place f_tokens f_now f_kind f_start f_value f_open f_topic f_trainDue a_kinds a_starts a_values a_text) (fun q5 hq5 => ?_)
          obtain ⟨q5_1, q5_2, q5_3, q5_4⟩ := q5
          iterate 3 refine xR_u (enc := meX8_cutWord n_text f_fault f_place f_tokens f_now f_kind f_start f_value f_open f_topic f_trainDue a_kinds a_starts a_values a_text) ?_
          have hMq5 := kX8_addToken l (1 : Int32) v_from x4_9 f_fault f_place f_tokens f_now f_kind f_start f_value f_open f_topic f_trainDue a_kinds a_starts a_values
          rw [← hq5] at hMq5
          refine xR_callV3 K pq_X8_cutWord rfl lk_X8_87 cy_X8_addToken si_X8_addToken ar_X8_addToken (rest := []) hMq5 (by decide) (by decide) rfl rfl (S2 := []) (C2 := mcX8_cutWord n_text f_fault f_place q5_1 f_now f_kind f_start f_value f_open f_topic f_trainDue q5_2 q5_3 q5_4 a_text) id [0, 1, 2, 3] rfl rfl (Nat.le_of_ble_eq_true rfl) rfl (by decide) rfl rfl rfl ?_
          refine xR_st K pq_X8_cutWord 1 (pc' := 117) (L' := [some (.ref 0), some (.ref 1000), some (.int v_length), some (.int v_from), some (.int x4_9), some (.int x5_9), some (.int (nI i9)), none]) (S' := [.int v_length]) (C' := mcX8_cutWord n_text f_fault f_place q5_1 f_now f_kind f_start f_value f_open f_topic f_trainDue q5_2 q5_3 q5_4 a_text) rfl trivial ?_
          exact xR_ret K pq_X8_cutWord rfl
        · exact xR_less2 (J118 _ _ g0_9) ⟨rfl, rfl, rfl, rfl, rfl, trivial⟩
      · exact xR_less2 (J118 _ _ g0_9) ⟨rfl, rfl, rfl, rfl, rfl, trivial⟩
    | succ k9 ih =>
      intro i9 x4_9 x5_9 hik9 g0_9
      rw [mX8_cutWord_9.eq_2]
      refine xR_st K pq_X8_cutWord 2 (pc' := 13) (L' := [some (.ref 0), some (.ref 1000), some (.int v_length), some (.int v_from), some (.int x4_9), some (.int x5_9), some (.int (nI i9)), none]) (S' := [.int 6, .int (nI i9)]) (C' := mcX8_cutWord n_text f_fault f_place f_tokens f_now f_kind f_start f_value f_open f_topic f_trainDue a_kinds a_starts a_values a_text) rfl trivial ?_
      refine xR_if2 K pq_X8_cutWord rfl ⟨rfl, rfl⟩ (fun hx => absurd (xlt_yes 6 hik9 (by first | assumption | decide)) hx) (fun _ => ?_)
      refine xR_st K pq_X8_cutWord 2 (pc' := 19) (L' := [some (.ref 0), some (.ref 1000), some (.int v_length), some (.int v_from), some (.int x4_9), some (.int x5_9), some (.int (nI i9)), none]) (S' := [.int v_length, .int x4_9]) (C' := mcX8_cutWord n_text f_fault f_place f_tokens f_now f_kind f_start f_value f_open f_topic f_trainDue a_kinds a_starts a_values a_text) rfl trivial ?_
      refine xR_i2 (enc := meX8_cutWord n_text f_fault f_place f_tokens f_now f_kind f_start f_value f_open f_topic f_trainDue a_kinds a_starts a_values a_text) (q1 := 22) (q2 := 38) K pq_X8_cutWord rfl rfl rfl rfl (fun h1 => ?_) (fun h1 => ?_)
      · refine xR_st K pq_X8_cutWord 2 (pc' := 25) (L' := [some (.ref 0), some (.ref 1000), some (.int v_length), some (.int v_from), some (.int x4_9), some (.int x5_9), some (.int (nI i9)), none]) (S' := [.int x4_9, .ref 1000]) (C' := mcX8_cutWord n_text f_fault f_place f_tokens f_now f_kind f_start f_value f_open f_topic f_trainDue a_kinds a_starts a_values a_text) rfl trivial ?_
        refine xR_callS3 K pq_X8_cutWord rfl lk_X8_75 cy_X11_at ss_X11_at ar_X11_at (rest := []) (kX11_at l n_text x4_9 a_text (by first | assumption | decide | omega)) (by decide) (by decide) (S2 := [.int (mX11_at n_text x4_9 a_text)]) (C2 := mcX8_cutWord n_text f_fault f_place f_tokens f_now f_kind f_start f_value f_open f_topic f_trainDue a_kinds a_starts a_values a_text) (fun k => k - 1000 + 1000) [4] rfl rfl (Nat.le_of_ble_eq_true rfl) rfl (by decide) rfl rfl rfl ?_
        refine xR_callS3 K pq_X8_cutWord rfl lk_X8_91 cy_X8_isLetter ss_X8_isLetter ar_X8_isLetter (rest := []) (kX8_isLetter l (mX11_at n_text x4_9 a_text)) (by decide) (by decide) (S2 := [.int (xb (mX8_isLetter (mX11_at n_text x4_9 a_text)))]) (C2 := mcX8_cutWord n_text f_fault f_place f_tokens f_now f_kind f_start f_value f_open f_topic f_trainDue a_kinds a_starts a_values a_text) id [] rfl rfl (Nat.le_of_ble_eq_true rfl) rfl (by decide) rfl rfl rfl ?_
        refine xR_ib (enc := meX8_cutWord n_text f_fault f_place f_tokens f_now f_kind f_start f_value f_open f_topic f_trainDue a_kinds a_starts a_values a_text) (q1 := 34) (q2 := 38) K pq_X8_cutWord rfl (by first | exact Or.inl rfl | exact Or.inr rfl) rfl rfl (fun h2 => ?_) (fun h2 => ?_)
        · refine xR_st K pq_X8_cutWord 2 (pc' := 39) (L' := [some (.ref 0), some (.ref 1000), some (.int v_length), some (.int v_from), some (.int x4_9), some (.int x5_9), some (.int (nI i9)), none]) (S' := [.int 1]) (C' := mcX8_cutWord n_text f_fault f_place f_tokens f_now f_kind f_start f_value f_open f_topic f_trainDue a_kinds a_starts a_values a_text) rfl trivial ?_
          exact xR_less2 (J39 i9 x4_9 x5_9 _ (fun zx4_9 zx5_9 => ih (i9 + 1) zx4_9 zx5_9 (by omega) g0_9) _ (by omega) g0_9) ⟨rfl, rfl, rfl, rfl, rfl, rfl, rfl, trivial⟩
        · exact xR_less2 (J38 i9 x4_9 x5_9 _ (fun zx4_9 zx5_9 => ih (i9 + 1) zx4_9 zx5_9 (by omega) g0_9) (by omega) g0_9) ⟨rfl, rfl, rfl, rfl, rfl, rfl, rfl, trivial⟩
      · exact xR_less2 (J38 i9 x4_9 x5_9 _ (fun zx4_9 zx5_9 => ih (i9 + 1) zx4_9 zx5_9 (by omega) g0_9) (by omega) g0_9) ⟨rfl, rfl, rfl, rfl, rfl, rfl, rfl, trivial⟩
  refine xR_st K pq_X8_cutWord 6 (pc' := 9) (L' := [some (.ref 0), some (.ref 1000), some (.int v_length), some (.int v_from), some (.int v_from), some (.int 0), some (.int 0), none]) (S' := []) (C' := mcX8_cutWord n_text f_fault f_place f_tokens f_now f_kind f_start f_value f_open f_topic f_trainDue a_kinds a_starts a_values a_text) rfl trivial ?_
  exact xR_less2 (J9 _ _ _ _ (by first | rfl | omega) hn_text) ⟨rfl, rfl, rfl, rfl, rfl, rfl, rfl, trivial⟩
def pg_X8_cutNumber : xPg := [(0, .iload_n 3, .null), (1, .istore 4, .null), (3, .iconst 0, .int 0), (4, .istore 5, .null), (6, .iconst 0, .int 0), (7, .istore 6, .null), (9, .iload 6, .null), (11, .iconst 4, .int 4), (12, .if_icmp .ge 47, .retAddr 59), (15, .iload 4, .null), (17, .iload_n 2, .null), (18, .if_icmp .ge 41, .retAddr 59), (21, .aload_n 1, .null), (22, .iload 4, .null), (24, .invokestatic 75, .null), (27, .invokestatic 94, .null), (30, .ifCond .eq 29, .retAddr 59), (33, .iload 5, .null), (35, .bipush 10, .int 10), (37, .imul, .null), (38, .aload_n 1, .null), (39, .iload 4, .null), (41, .invokestatic 75, .null), (44, .iadd, .null), (45, .bipush 48, .int 48), (47, .isub, .null), (48, .istore 5, .null), (50, .iinc 4 1, .int 1), (53, .iinc 6 1, .int 1), (56, .goto (-47), .retAddr 9), (59, .iload 4, .null), (61, .iload_n 2, .null), (62, .if_icmp .ge 25, .retAddr 87), (65, .aload_n 1, .null), (66, .iload 4, .null), (68, .invokestatic 75, .null), (71, .invokestatic 94, .null), (74, .ifCond .eq 13, .retAddr 87), (77, .aload_n 0, .null), (78, .iconst 1, .int 1), (79, .iload_n 3, .null), (80, .iload 4, .null), (82, .invokevirtual 87, .null), (85, .iload_n 2, .null), (86, .ireturn, .null), (87, .aload_n 0, .null), (88, .iconst 2, .int 2), (89, .iload_n 3, .null), (90, .iload 5, .null), (92, .invokevirtual 87, .null), (95, .iload 4, .null), (97, .ireturn, .null)]
theorem pq_X8_cutNumber : xPq RX8 cX8_cutNumber tb_X8 pg_X8_cutNumber := ⟨tab_X8, xPok_of (by decide +kernel)⟩
theorem cy_X8_cutNumber : xCy yX8_cutNumber cX8_cutNumber 7 (some .int) := ⟨xtb_in (i := 778) (by decide +kernel) rfl, xtb_in (i := 154) (by decide +kernel) rfl, by decide +kernel, by decide +kernel⟩
theorem si_X8_cutNumber : Cond.instanceMethod yX8_cutNumber ∈ xtb ∧ Cond.selects yX8_cutNumber.cls yX8_cutNumber yX8_cutNumber ∈ xtb := ⟨xtb_in (i := 777) (by decide +kernel) rfl, xtb_in (i := 8) (by decide +kernel) rfl⟩
theorem ar_X8_cutNumber : xar yX8_cutNumber 3 := by unfold xar; decide +kernel
def mcX8_cutNumber (n_text : Nat) (f_fault : Int32) (f_place : Int32) (f_tokens : Int32) (f_now : Int32) (f_kind : Int32) (f_start : Int32) (f_value : Int32) (f_open : Int32) (f_topic : Int32) (f_trainDue : Bool) (a_kinds : Nat → Int32) (a_starts : Nat → Int32) (a_values : Nat → Int32) (a_text : Nat → Int32) : xC := [(0, .inr (8, [.ref 1, .ref 2, .ref 3, .int f_fault, .int f_place, .ref 4, .int f_tokens, .int f_now, .int f_kind, .int f_start, .int f_value, .int f_open, .int f_topic, .int (xb f_trainDue)])), (1, .inl (0, 1601, .inl a_kinds)), (2, .inl (0, 1601, .inl a_starts)), (3, .inl (0, 1601, .inl a_values)), (1000, .inl (0, n_text, .inl a_text))]
def meX8_cutNumber (n_text : Nat) (f_fault : Int32) (f_place : Int32) (f_tokens : Int32) (f_now : Int32) (f_kind : Int32) (f_start : Int32) (f_value : Int32) (f_open : Int32) (f_topic : Int32) (f_trainDue : Bool) (a_kinds : Nat → Int32) (a_starts : Nat → Int32) (a_values : Nat → Int32) (a_text : Nat → Int32) : Int32 × Int32 × (Nat → Int32) × (Nat → Int32) × (Nat → Int32) → xRes := fun r => some (some (.int (r.1)), mcX8_cutNumber n_text f_fault f_place r.2.1 f_now f_kind f_start f_value f_open f_topic f_trainDue r.2.2.1 r.2.2.2.1 r.2.2.2.2 a_text)
def mX8_cutNumber_87 (v_from : Int32) (f_tokens : Int32) (a_kinds : Nat → Int32) (a_starts : Nat → Int32) (a_values : Nat → Int32)  (x4_87 : Int32) (x5_87 : Int32) : Int32 × Int32 × (Nat → Int32) × (Nat → Int32) × (Nat → Int32) :=
  xlet (mX8_addToken (2 : Int32) v_from x5_87 f_tokens a_kinds a_starts a_values) (xu fun q6_1 => xu fun q6_2 => xu fun q6_3 => fun q6_4 =>
    (x4_87, q6_1, q6_2, q6_3, q6_4))
def mX8_cutNumber_59 (n_text : Nat) (v_length : Int32) (v_from : Int32) (f_tokens : Int32) (a_kinds : Nat → Int32) (a_starts : Nat → Int32) (a_values : Nat → Int32) (a_text : Nat → Int32)  (x4_59 : Int32) (x5_59 : Int32) : Int32 × Int32 × (Nat → Int32) × (Nat → Int32) × (Nat → Int32) :=
  if x4_59 < v_length then
    if (mX8_isDigit (mX11_at n_text x4_59 a_text)) = true then
      xlet (mX8_addToken (1 : Int32) v_from x4_59 f_tokens a_kinds a_starts a_values) (xu fun q5_1 => xu fun q5_2 => xu fun q5_3 => fun q5_4 =>
        (v_length, q5_1, q5_2, q5_3, q5_4))
    else
      mX8_cutNumber_87 v_from f_tokens a_kinds a_starts a_values x4_59 x5_59
  else
    mX8_cutNumber_87 v_from f_tokens a_kinds a_starts a_values x4_59 x5_59
def mX8_cutNumber_9 (n_text : Nat) (v_length : Int32) (v_from : Int32) (f_tokens : Int32) (a_kinds : Nat → Int32) (a_starts : Nat → Int32) (a_values : Nat → Int32) (a_text : Nat → Int32)  : Nat → Nat → Int32 → Int32 → Int32 × Int32 × (Nat → Int32) × (Nat → Int32) × (Nat → Int32)
  | 0, i9, x4_9, x5_9 => mX8_cutNumber_59 n_text v_length v_from f_tokens a_kinds a_starts a_values a_text x4_9 x5_9
  | k9 + 1, i9, x4_9, x5_9 =>
    if x4_9 < v_length then
      if (mX8_isDigit (mX11_at n_text x4_9 a_text)) = true then
        mX8_cutNumber_9 n_text v_length v_from f_tokens a_kinds a_starts a_values a_text k9 (i9 + 1) (x4_9 + 1) (((x5_9 * 10) + (mX11_at n_text x4_9 a_text)) - 48)
      else
        mX8_cutNumber_59 n_text v_length v_from f_tokens a_kinds a_starts a_values a_text x4_9 x5_9
    else
      mX8_cutNumber_59 n_text v_length v_from f_tokens a_kinds a_starts a_values a_text x4_9 x5_9
def mX8_cutNumber (n_text : Nat) (v_length : Int32) (v_from : Int32) (f_tokens : Int32) (a_kinds : Nat → Int32) (a_starts : Nat → Int32) (a_values : Nat → Int32) (a_text : Nat → Int32) : Int32 × Int32 × (Nat → Int32) × (Nat → Int32) × (Nat → Int32) :=
  mX8_cutNumber_9 n_text v_length v_from f_tokens a_kinds a_starts a_values a_text 4 0 v_from (0 : Int32)
set_option maxRecDepth 100000 in
set_option maxHeartbeats 1500000 in
theorem kX8_cutNumber (l : Launch) (n_text : Nat) (v_length : Int32) (v_from : Int32) (f_fault : Int32) (f_place : Int32) (f_tokens : Int32) (f_now : Int32) (f_kind : Int32) (f_start : Int32) (f_value : Int32) (f_open : Int32) (f_topic : Int32) (f_trainDue : Bool) (a_kinds : Nat → Int32) (a_starts : Nat → Int32) (a_values : Nat → Int32) (a_text : Nat → Int32) (hn_text : n_text < 2 ^ 31) : xMet l 2 yX8_cutNumber cX8_cutNumber 7 (some .int) [.ref 0, .ref 1000, .int v_length, .int v_from] (mcX8_cutNumber n_text f_fault f_place f_tokens f_now f_kind f_start f_value f_open f_topic f_trainDue a_kinds a_starts a_values a_text) (meX8_cutNumber n_text f_fault f_place f_tokens f_now f_kind f_start f_value f_open f_topic f_trainDue a_kinds a_starts a_values a_text (mX8_cutNumber n_text v_length v_from f_tokens a_kinds a_starts a_values a_text)) := by
  refine xMet_of cy_X8_cutNumber [some (.ref 0), some (.ref 1000), some (.int v_length), some (.int v_from), none, none, none] rfl (Nat.le_of_ble_eq_true rfl) (fun X K => ?_)
  have J87 : ∀ (x4_87 : Int32) (x5_87 : Int32) (g0_87 : n_text < 2 ^ 31), xR X (meX8_cutNumber n_text f_fault f_place f_tokens f_now f_kind f_start f_value f_open f_topic f_trainDue a_kinds a_starts a_values a_text (mX8_cutNumber_87 v_from f_tokens a_kinds a_starts a_values x4_87 x5_87)) 87 [some (.ref 0), none, none, some (.int v_from), some (.int x4_87), some (.int x5_87), none] [] (mcX8_cutNumber n_text f_fault f_place f_tokens f_now f_kind f_start f_value f_open f_topic f_trainDue a_kinds a_starts a_values a_text) := by
    intro x4_87 x5_87 g0_87
    refine xR_st K pq_X8_cutNumber 4 (pc' := 92) (L' := [some (.ref 0), none, none, some (.int v_from), some (.int x4_87), some (.int x5_87), none]) (S' := [.int x5_87, .int v_from, .int 2, .ref 0]) (C' := mcX8_cutNumber n_text f_fault f_place f_tokens f_now f_kind f_start f_value f_open f_topic f_trainDue a_kinds a_starts a_values a_text) rfl trivial ?_
    refine xR_let (enc := meX8_cutNumber n_text f_fault f_place f_tokens f_now f_kind f_start f_value f_open f_topic f_trainDue a_kinds a_starts a_values a_text) (fun q6 hq6 => ?_)
    obtain ⟨q6_1, q6_2, q6_3, q6_4⟩ := q6
    iterate 3 refine xR_u (enc := meX8_cutNumber n_text f_fault f_place f_tokens f_now f_kind f_start f_value f_open f_topic f_trainDue a_kinds a_starts a_values a_text) ?_
    have hMq6 := kX8_addToken l (2 : Int32) v_from x5_87 f_fault f_place f_tokens f_now f_kind f_start f_value f_open f_topic f_trainDue a_kinds a_starts a_values
    rw [← hq6] at hMq6
    refine xR_callV3 K pq_X8_cutNumber rfl lk_X8_87 cy_X8_addToken si_X8_addToken ar_X8_addToken (rest := []) hMq6 (by decide) (by decide) rfl rfl (S2 := []) (C2 := mcX8_cutNumber n_text f_fault f_place q6_1 f_now f_kind f_start f_value f_open f_topic f_trainDue q6_2 q6_3 q6_4 a_text) id [0, 1, 2, 3] rfl rfl (Nat.le_of_ble_eq_true rfl) rfl (by decide) rfl rfl rfl ?_
    refine xR_st K pq_X8_cutNumber 1 (pc' := 97) (L' := [some (.ref 0), none, none, some (.int v_from), some (.int x4_87), some (.int x5_87), none]) (S' := [.int x4_87]) (C' := mcX8_cutNumber n_text f_fault f_place q6_1 f_now f_kind f_start f_value f_open f_topic f_trainDue q6_2 q6_3 q6_4 a_text) rfl trivial ?_
    exact xR_ret K pq_X8_cutNumber rfl
  have J59 : ∀ (x4_59 : Int32) (x5_59 : Int32) (g0_59 : n_text < 2 ^ 31), xR X (meX8_cutNumber n_text f_fault f_place f_tokens f_now f_kind f_start f_value f_open f_topic f_trainDue a_kinds a_starts a_values a_text (mX8_cutNumber_59 n_text v_length v_from f_tokens a_kinds a_starts a_values a_text x4_59 x5_59)) 59 [some (.ref 0), some (.ref 1000), some (.int v_length), some (.int v_from), some (.int x4_59), some (.int x5_59), none] [] (mcX8_cutNumber n_text f_fault f_place f_tokens f_now f_kind f_start f_value f_open f_topic f_trainDue a_kinds a_starts a_values a_text) := by
    intro x4_59 x5_59 g0_59
    refine xR_st K pq_X8_cutNumber 2 (pc' := 62) (L' := [some (.ref 0), some (.ref 1000), some (.int v_length), some (.int v_from), some (.int x4_59), some (.int x5_59), none]) (S' := [.int v_length, .int x4_59]) (C' := mcX8_cutNumber n_text f_fault f_place f_tokens f_now f_kind f_start f_value f_open f_topic f_trainDue a_kinds a_starts a_values a_text) rfl trivial ?_
    refine xR_i2 (enc := meX8_cutNumber n_text f_fault f_place f_tokens f_now f_kind f_start f_value f_open f_topic f_trainDue a_kinds a_starts a_values a_text) (q1 := 65) (q2 := 87) K pq_X8_cutNumber rfl rfl rfl rfl (fun h3 => ?_) (fun h3 => ?_)
    · refine xR_st K pq_X8_cutNumber 2 (pc' := 68) (L' := [some (.ref 0), some (.ref 1000), some (.int v_length), some (.int v_from), some (.int x4_59), some (.int x5_59), none]) (S' := [.int x4_59, .ref 1000]) (C' := mcX8_cutNumber n_text f_fault f_place f_tokens f_now f_kind f_start f_value f_open f_topic f_trainDue a_kinds a_starts a_values a_text) rfl trivial ?_
      refine xR_callS3 K pq_X8_cutNumber rfl lk_X8_75 cy_X11_at ss_X11_at ar_X11_at (rest := []) (kX11_at l n_text x4_59 a_text (by first | assumption | decide | omega)) (by decide) (by decide) (S2 := [.int (mX11_at n_text x4_59 a_text)]) (C2 := mcX8_cutNumber n_text f_fault f_place f_tokens f_now f_kind f_start f_value f_open f_topic f_trainDue a_kinds a_starts a_values a_text) (fun k => k - 1000 + 1000) [4] rfl rfl (Nat.le_of_ble_eq_true rfl) rfl (by decide) rfl rfl rfl ?_
      refine xR_callS3 K pq_X8_cutNumber rfl lk_X8_94 cy_X8_isDigit ss_X8_isDigit ar_X8_isDigit (rest := []) (kX8_isDigit l (mX11_at n_text x4_59 a_text)) (by decide) (by decide) (S2 := [.int (xb (mX8_isDigit (mX11_at n_text x4_59 a_text)))]) (C2 := mcX8_cutNumber n_text f_fault f_place f_tokens f_now f_kind f_start f_value f_open f_topic f_trainDue a_kinds a_starts a_values a_text) id [] rfl rfl (Nat.le_of_ble_eq_true rfl) rfl (by decide) rfl rfl rfl ?_
      refine xR_ib (enc := meX8_cutNumber n_text f_fault f_place f_tokens f_now f_kind f_start f_value f_open f_topic f_trainDue a_kinds a_starts a_values a_text) (q1 := 77) (q2 := 87) K pq_X8_cutNumber rfl (by first | exact Or.inl rfl | exact Or.inr rfl) rfl rfl (fun h4 => ?_) (fun h4 => ?_)
      · refine xR_st K pq_X8_cutNumber 4 (pc' := 82) (L' := [some (.ref 0), some (.ref 1000), some (.int v_length), some (.int v_from), some (.int x4_59), some (.int x5_59), none]) (S' := [.int x4_59, .int v_from, .int 1, .ref 0]) (C' := mcX8_cutNumber n_text f_fault f_place f_tokens f_now f_kind f_start f_value f_open f_topic f_trainDue a_kinds a_starts a_values a_text) rfl trivial ?_
        refine xR_let (enc := meX8_cutNumber n_text f_fault f_place f_tokens f_now f_kind f_start f_value f_open f_topic f_trainDue a_kinds a_starts a_values a_text) (fun q5 hq5 => ?_)
        obtain ⟨q5_1, q5_2, q5_3, q5_4⟩ := q5
        iterate 3 refine xR_u (enc := meX8_cutNumber n_text f_fault f_place f_tokens f_now f_kind f_start f_value f_open f_topic f_trainDue a_kinds a_starts a_values a_text) ?_
        have hMq5 := kX8_addToken l (1 : Int32) v_from x4_59 f_fault f_place f_tokens f_now f_kind f_start f_value f_open f_topic f_trainDue a_kinds a_starts a_values
        rw [← hq5] at hMq5
        refine xR_callV3 K pq_X8_cutNumber rfl lk_X8_87 cy_X8_addToken si_X8_addToken ar_X8_addToken (rest := []) hMq5 (by decide) (by decide) rfl rfl (S2 := []) (C2 := mcX8_cutNumber n_text f_fault f_place q5_1 f_now f_kind f_start f_value f_open f_topic f_trainDue q5_2 q5_3 q5_4 a_text) id [0, 1, 2, 3] rfl rfl (Nat.le_of_ble_eq_true rfl) rfl (by decide) rfl rfl rfl ?_
        refine xR_st K pq_X8_cutNumber 1 (pc' := 86) (L' := [some (.ref 0), some (.ref 1000), some (.int v_length), some (.int v_from), some (.int x4_59), some (.int x5_59), none]) (S' := [.int v_length]) (C' := mcX8_cutNumber n_text f_fault f_place q5_1 f_now f_kind f_start f_value f_open f_topic f_trainDue q5_2 q5_3 q5_4 a_text) rfl trivial ?_
        exact xR_ret K pq_X8_cutNumber rfl
      · exact xR_less2 (J87 _ _ g0_59) ⟨rfl, rfl, rfl, rfl, trivial⟩
    · exact xR_less2 (J87 _ _ g0_59) ⟨rfl, rfl, rfl, rfl, trivial⟩
  have J9 : ∀ (k9 i9 : Nat) (x4_9 : Int32) (x5_9 : Int32) (hik9 : i9 + k9 = 4) (g0_9 : n_text < 2 ^ 31), xR X (meX8_cutNumber n_text f_fault f_place f_tokens f_now f_kind f_start f_value f_open f_topic f_trainDue a_kinds a_starts a_values a_text (mX8_cutNumber_9 n_text v_length v_from f_tokens a_kinds a_starts a_values a_text k9 i9 x4_9 x5_9)) 9 [some (.ref 0), some (.ref 1000), some (.int v_length), some (.int v_from), some (.int x4_9), some (.int x5_9), some (.int (nI i9))] [] (mcX8_cutNumber n_text f_fault f_place f_tokens f_now f_kind f_start f_value f_open f_topic f_trainDue a_kinds a_starts a_values a_text) := by
    intro k9
    induction k9 with
    | zero =>
      intro i9 x4_9 x5_9 hik9 g0_9
      rw [mX8_cutNumber_9.eq_1]
      refine xR_st K pq_X8_cutNumber 2 (pc' := 12) (L' := [some (.ref 0), some (.ref 1000), some (.int v_length), some (.int v_from), some (.int x4_9), some (.int x5_9), some (.int (nI i9))]) (S' := [.int 4, .int (nI i9)]) (C' := mcX8_cutNumber n_text f_fault f_place f_tokens f_now f_kind f_start f_value f_open f_topic f_trainDue a_kinds a_starts a_values a_text) rfl trivial ?_
      refine xR_if2 K pq_X8_cutNumber rfl ⟨rfl, rfl⟩ (fun _ => ?_) (fun hx => absurd hx (xlt_no 4 hik9 (by first | assumption | decide)))
      exact xR_less2 (J59 _ _ g0_9) ⟨rfl, rfl, rfl, rfl, rfl, rfl, trivial⟩
    | succ k9 ih =>
      intro i9 x4_9 x5_9 hik9 g0_9
      rw [mX8_cutNumber_9.eq_2]
      refine xR_st K pq_X8_cutNumber 2 (pc' := 12) (L' := [some (.ref 0), some (.ref 1000), some (.int v_length), some (.int v_from), some (.int x4_9), some (.int x5_9), some (.int (nI i9))]) (S' := [.int 4, .int (nI i9)]) (C' := mcX8_cutNumber n_text f_fault f_place f_tokens f_now f_kind f_start f_value f_open f_topic f_trainDue a_kinds a_starts a_values a_text) rfl trivial ?_
      refine xR_if2 K pq_X8_cutNumber rfl ⟨rfl, rfl⟩ (fun hx => absurd (xlt_yes 4 hik9 (by first | assumption | decide)) hx) (fun _ => ?_)
      refine xR_st K pq_X8_cutNumber 2 (pc' := 18) (L' := [some (.ref 0), some (.ref 1000), some (.int v_length), some (.int v_from), some (.int x4_9), some (.int x5_9), some (.int (nI i9))]) (S' := [.int v_length, .int x4_9]) (C' := mcX8_cutNumber n_text f_fault f_place f_tokens f_now f_kind f_start f_value f_open f_topic f_trainDue a_kinds a_starts a_values a_text) rfl trivial ?_
      refine xR_i2 (enc := meX8_cutNumber n_text f_fault f_place f_tokens f_now f_kind f_start f_value f_open f_topic f_trainDue a_kinds a_starts a_values a_text) (q1 := 21) (q2 := 59) K pq_X8_cutNumber rfl rfl rfl rfl (fun h1 => ?_) (fun h1 => ?_)
      · refine xR_st K pq_X8_cutNumber 2 (pc' := 24) (L' := [some (.ref 0), some (.ref 1000), some (.int v_length), some (.int v_from), some (.int x4_9), some (.int x5_9), some (.int (nI i9))]) (S' := [.int x4_9, .ref 1000]) (C' := mcX8_cutNumber n_text f_fault f_place f_tokens f_now f_kind f_start f_value f_open f_topic f_trainDue a_kinds a_starts a_values a_text) rfl trivial ?_
        refine xR_callS3 K pq_X8_cutNumber rfl lk_X8_75 cy_X11_at ss_X11_at ar_X11_at (rest := []) (kX11_at l n_text x4_9 a_text (by first | assumption | decide | omega)) (by decide) (by decide) (S2 := [.int (mX11_at n_text x4_9 a_text)]) (C2 := mcX8_cutNumber n_text f_fault f_place f_tokens f_now f_kind f_start f_value f_open f_topic f_trainDue a_kinds a_starts a_values a_text) (fun k => k - 1000 + 1000) [4] rfl rfl (Nat.le_of_ble_eq_true rfl) rfl (by decide) rfl rfl rfl ?_
        refine xR_callS3 K pq_X8_cutNumber rfl lk_X8_94 cy_X8_isDigit ss_X8_isDigit ar_X8_isDigit (rest := []) (kX8_isDigit l (mX11_at n_text x4_9 a_text)) (by decide) (by decide) (S2 := [.int (xb (mX8_isDigit (mX11_at n_text x4_9 a_text)))]) (C2 := mcX8_cutNumber n_text f_fault f_place f_tokens f_now f_kind f_start f_value f_open f_topic f_trainDue a_kinds a_starts a_values a_text) id [] rfl rfl (Nat.le_of_ble_eq_true rfl) rfl (by decide) rfl rfl rfl ?_
        refine xR_ib (enc := meX8_cutNumber n_text f_fault f_place f_tokens f_now f_kind f_start f_value f_open f_topic f_trainDue a_kinds a_starts a_values a_text) (q1 := 33) (q2 := 59) K pq_X8_cutNumber rfl (by first | exact Or.inl rfl | exact Or.inr rfl) rfl rfl (fun h2 => ?_) (fun h2 => ?_)
        · refine xR_st K pq_X8_cutNumber 5 (pc' := 41) (L' := [some (.ref 0), some (.ref 1000), some (.int v_length), some (.int v_from), some (.int x4_9), some (.int x5_9), some (.int (nI i9))]) (S' := [.int x4_9, .ref 1000, .int (x5_9 * 10)]) (C' := mcX8_cutNumber n_text f_fault f_place f_tokens f_now f_kind f_start f_value f_open f_topic f_trainDue a_kinds a_starts a_values a_text) rfl trivial ?_
          refine xR_callS3 K pq_X8_cutNumber rfl lk_X8_75 cy_X11_at ss_X11_at ar_X11_at (rest := [.int (x5_9 * 10)]) (kX11_at l n_text x4_9 a_text (by first | assumption | decide | omega)) (by decide) (by decide) (S2 := [.int (mX11_at n_text x4_9 a_text), .int (x5_9 * 10)]) (C2 := mcX8_cutNumber n_text f_fault f_place f_tokens f_now f_kind f_start f_value f_open f_topic f_trainDue a_kinds a_starts a_values a_text) (fun k => k - 1000 + 1000) [4] rfl rfl (Nat.le_of_ble_eq_true rfl) rfl (by decide) rfl rfl rfl ?_
          refine xR_st K pq_X8_cutNumber 7 (pc' := 9) (L' := [some (.ref 0), some (.ref 1000), some (.int v_length), some (.int v_from), some (.int (x4_9 + 1)), some (.int (((x5_9 * 10) + (mX11_at n_text x4_9 a_text)) - 48)), some (.int ((nI i9) + 1))]) (S' := []) (C' := mcX8_cutNumber n_text f_fault f_place f_tokens f_now f_kind f_start f_value f_open f_topic f_trainDue a_kinds a_starts a_values a_text) rfl trivial ?_
          exact xR_less2 (ih (i9 + 1) _ _ (by omega) g0_9) ⟨rfl, rfl, rfl, rfl, rfl, rfl, xcnt i9, trivial⟩
        · exact xR_less2 (J59 _ _ g0_9) ⟨rfl, rfl, rfl, rfl, rfl, rfl, trivial⟩
      · exact xR_less2 (J59 _ _ g0_9) ⟨rfl, rfl, rfl, rfl, rfl, rfl, trivial⟩
  refine xR_st K pq_X8_cutNumber 6 (pc' := 9) (L' := [some (.ref 0), some (.ref 1000), some (.int v_length), some (.int v_from), some (.int v_from), some (.int 0), some (.int 0)]) (S' := []) (C' := mcX8_cutNumber n_text f_fault f_place f_tokens f_now f_kind f_start f_value f_open f_topic f_trainDue a_kinds a_starts a_values a_text) rfl trivial ?_
  exact xR_less2 (J9 _ _ _ _ (by first | rfl | omega) hn_text) ⟨rfl, rfl, rfl, rfl, rfl, rfl, rfl, trivial⟩
def pg_X8_cutToken : xPg := [(0, .aload_n 1, .null), (1, .iload_n 3, .null), (2, .invokestatic 75, .null), (5, .istore 4, .null), (7, .aload_n 1, .null), (8, .iload_n 3, .null), (9, .iconst 1, .int 1), (10, .isub, .null), (11, .invokestatic 75, .null), (14, .istore 5, .null), (16, .iload 4, .null), (18, .invokestatic 91, .null), (21, .ifCond .eq 11, .retAddr 32), (24, .iload 5, .null), (26, .invokestatic 94, .null), (29, .ifCond .ne 19, .retAddr 48), (32, .iload 4, .null), (34, .invokestatic 94, .null), (37, .ifCond .eq 20, .retAddr 57), (40, .iload 5, .null), (42, .invokestatic 91, .null), (45, .ifCond .eq 12, .retAddr 57), (48, .aload_n 0, .null), (49, .iconst 1, .int 1), (50, .iload_n 3, .null), (51, .iload_n 3, .null), (52, .invokevirtual 87, .null), (55, .iload_n 2, .null), (56, .ireturn, .null), (57, .iload 4, .null), (59, .invokestatic 91, .null), (62, .ifCond .eq 11, .retAddr 73), (65, .aload_n 0, .null), (66, .aload_n 1, .null), (67, .iload_n 2, .null), (68, .iload_n 3, .null), (69, .invokevirtual 97, .null), (72, .ireturn, .null), (73, .iload 4, .null), (75, .invokestatic 94, .null), (78, .ifCond .eq 11, .retAddr 89), (81, .aload_n 0, .null), (82, .aload_n 1, .null), (83, .iload_n 2, .null), (84, .iload_n 3, .null), (85, .invokevirtual 100, .null), (88, .ireturn, .null), (89, .aload_n 0, .null), (90, .iconst 5, .int 5), (91, .iload_n 3, .null), (92, .iload 4, .null), (94, .invokevirtual 87, .null), (97, .iload_n 3, .null), (98, .iconst 1, .int 1), (99, .iadd, .null), (100, .ireturn, .null)]
theorem pq_X8_cutToken : xPq RX8 cX8_cutToken tb_X8 pg_X8_cutToken := ⟨tab_X8, xPok_of (by decide +kernel)⟩
theorem cy_X8_cutToken : xCy yX8_cutToken cX8_cutToken 6 (some .int) := ⟨xtb_in (i := 706) (by decide +kernel) rfl, xtb_in (i := 154) (by decide +kernel) rfl, by decide +kernel, by decide +kernel⟩
theorem si_X8_cutToken : Cond.instanceMethod yX8_cutToken ∈ xtb ∧ Cond.selects yX8_cutToken.cls yX8_cutToken yX8_cutToken ∈ xtb := ⟨xtb_in (i := 705) (by decide +kernel) rfl, xtb_in (i := 4) (by decide +kernel) rfl⟩
theorem ar_X8_cutToken : xar yX8_cutToken 3 := by unfold xar; decide +kernel
def mcX8_cutToken (n_text : Nat) (f_fault : Int32) (f_place : Int32) (f_tokens : Int32) (f_now : Int32) (f_kind : Int32) (f_start : Int32) (f_value : Int32) (f_open : Int32) (f_topic : Int32) (f_trainDue : Bool) (a_kinds : Nat → Int32) (a_starts : Nat → Int32) (a_values : Nat → Int32) (a_text : Nat → Int32) : xC := [(0, .inr (8, [.ref 1, .ref 2, .ref 3, .int f_fault, .int f_place, .ref 4, .int f_tokens, .int f_now, .int f_kind, .int f_start, .int f_value, .int f_open, .int f_topic, .int (xb f_trainDue)])), (1, .inl (0, 1601, .inl a_kinds)), (2, .inl (0, 1601, .inl a_starts)), (3, .inl (0, 1601, .inl a_values)), (1000, .inl (0, n_text, .inl a_text))]
def meX8_cutToken (n_text : Nat) (f_fault : Int32) (f_place : Int32) (f_tokens : Int32) (f_now : Int32) (f_kind : Int32) (f_start : Int32) (f_value : Int32) (f_open : Int32) (f_topic : Int32) (f_trainDue : Bool) (a_kinds : Nat → Int32) (a_starts : Nat → Int32) (a_values : Nat → Int32) (a_text : Nat → Int32) : Int32 × Int32 × (Nat → Int32) × (Nat → Int32) × (Nat → Int32) → xRes := fun r => some (some (.int (r.1)), mcX8_cutToken n_text f_fault f_place r.2.1 f_now f_kind f_start f_value f_open f_topic f_trainDue r.2.2.1 r.2.2.2.1 r.2.2.2.2 a_text)
def mX8_cutToken_57 (n_text : Nat) (v_length : Int32) (v_from : Int32) (f_tokens : Int32) (a_kinds : Nat → Int32) (a_starts : Nat → Int32) (a_values : Nat → Int32) (a_text : Nat → Int32)   : Int32 × Int32 × (Nat → Int32) × (Nat → Int32) × (Nat → Int32) :=
  if (mX8_isLetter (mX11_at n_text v_from a_text)) = true then
    xlet (mX8_cutWord n_text v_length v_from f_tokens a_kinds a_starts a_values a_text) (xu fun q7_1 => xu fun q7_2 => xu fun q7_3 => xu fun q7_4 => fun q7_5 =>
      (q7_1, q7_2, q7_3, q7_4, q7_5))
  else
    if (mX8_isDigit (mX11_at n_text v_from a_text)) = true then
      xlet (mX8_cutNumber n_text v_length v_from f_tokens a_kinds a_starts a_values a_text) (xu fun q9_1 => xu fun q9_2 => xu fun q9_3 => xu fun q9_4 => fun q9_5 =>
        (q9_1, q9_2, q9_3, q9_4, q9_5))
    else
      xlet (mX8_addToken (5 : Int32) v_from (mX11_at n_text v_from a_text) f_tokens a_kinds a_starts a_values) (xu fun q10_1 => xu fun q10_2 => xu fun q10_3 => fun q10_4 =>
        (v_from + 1, q10_1, q10_2, q10_3, q10_4))
def mX8_cutToken_48 (v_length : Int32) (v_from : Int32) (f_tokens : Int32) (a_kinds : Nat → Int32) (a_starts : Nat → Int32) (a_values : Nat → Int32)   : Int32 × Int32 × (Nat → Int32) × (Nat → Int32) × (Nat → Int32) :=
  xlet (mX8_addToken (1 : Int32) v_from v_from f_tokens a_kinds a_starts a_values) (xu fun q5_1 => xu fun q5_2 => xu fun q5_3 => fun q5_4 =>
    (v_length, q5_1, q5_2, q5_3, q5_4))
def mX8_cutToken_32 (n_text : Nat) (v_length : Int32) (v_from : Int32) (f_tokens : Int32) (a_kinds : Nat → Int32) (a_starts : Nat → Int32) (a_values : Nat → Int32) (a_text : Nat → Int32)   : Int32 × Int32 × (Nat → Int32) × (Nat → Int32) × (Nat → Int32) :=
  if (mX8_isDigit (mX11_at n_text v_from a_text)) = true then
    if (mX8_isLetter (mX11_at n_text (v_from - 1) a_text)) = true then
      mX8_cutToken_48 v_length v_from f_tokens a_kinds a_starts a_values
    else
      mX8_cutToken_57 n_text v_length v_from f_tokens a_kinds a_starts a_values a_text
  else
    mX8_cutToken_57 n_text v_length v_from f_tokens a_kinds a_starts a_values a_text
def mX8_cutToken (n_text : Nat) (v_length : Int32) (v_from : Int32) (f_tokens : Int32) (a_kinds : Nat → Int32) (a_starts : Nat → Int32) (a_values : Nat → Int32) (a_text : Nat → Int32) : Int32 × Int32 × (Nat → Int32) × (Nat → Int32) × (Nat → Int32) :=
  if (mX8_isLetter (mX11_at n_text v_from a_text)) = true then
    if (mX8_isDigit (mX11_at n_text (v_from - 1) a_text)) = true then
      mX8_cutToken_48 v_length v_from f_tokens a_kinds a_starts a_values
    else
      mX8_cutToken_32 n_text v_length v_from f_tokens a_kinds a_starts a_values a_text
  else
    mX8_cutToken_32 n_text v_length v_from f_tokens a_kinds a_starts a_values a_text
set_option maxRecDepth 100000 in
theorem sh_X8_cutToken_0 {n_text : Nat} {f_fault : Int32} {f_place : Int32} {f_tokens : Int32} {f_now : Int32} {f_kind : Int32} {f_start : Int32} {f_value : Int32} {f_open : Int32} {f_topic : Int32} {f_trainDue : Bool} {a_kinds : Nat → Int32} {a_starts : Nat → Int32} {a_values : Nat → Int32} {a_text : Nat → Int32} : ([0, 1, 2, 3, 4] : List Nat).map (fun i => (mcX8_cutToken n_text f_fault f_place f_tokens f_now f_kind f_start f_value f_open f_topic f_trainDue a_kinds a_starts a_values a_text)[i]?) = (mcX8_cutWord n_text f_fault f_place f_tokens f_now f_kind f_start f_value f_open f_topic f_trainDue a_kinds a_starts a_values a_text).map (fun q => some (xrn (fun k => cond (Nat.ble 1000 k) (k - 1000 + 1000) (k + 0)) q)) := rfl
set_option maxRecDepth 100000 in
theorem se_X8_cutToken_0 {n_text : Nat} {f_fault : Int32} {f_place : Int32} {f_tokens : Int32} {f_now : Int32} {f_kind : Int32} {f_start : Int32} {f_value : Int32} {f_open : Int32} {f_topic : Int32} {f_trainDue : Bool} {a_kinds : Nat → Int32} {a_starts : Nat → Int32} {a_values : Nat → Int32} {a_text : Nat → Int32} {c_0 : Int32} {c_1 : Int32} {c_2 : Int32} {c_3 : Int32} {c_4 : Int32} {c_5 : Int32} {c_6 : Int32} {c_7 : Int32} {c_8 : Int32} {c_9 : Bool} {c_10 : Nat → Int32} {c_11 : Nat → Int32} {c_12 : Nat → Int32} {c_13 : Nat → Int32} : xmg 0 (mcX8_cutToken n_text f_fault f_place f_tokens f_now f_kind f_start f_value f_open f_topic f_trainDue a_kinds a_starts a_values a_text) [0, 1, 2, 3, 4] ((mcX8_cutWord n_text c_0 c_1 c_2 c_3 c_4 c_5 c_6 c_7 c_8 c_9 c_10 c_11 c_12 c_13).map (xrn (fun k => cond (Nat.ble 1000 k) (k - 1000 + 1000) (k + 0)))) = mcX8_cutToken n_text c_0 c_1 c_2 c_3 c_4 c_5 c_6 c_7 c_8 c_9 c_10 c_11 c_12 c_13 := rfl
set_option maxRecDepth 100000 in
theorem sh_X8_cutToken_1 {n_text : Nat} {f_fault : Int32} {f_place : Int32} {f_tokens : Int32} {f_now : Int32} {f_kind : Int32} {f_start : Int32} {f_value : Int32} {f_open : Int32} {f_topic : Int32} {f_trainDue : Bool} {a_kinds : Nat → Int32} {a_starts : Nat → Int32} {a_values : Nat → Int32} {a_text : Nat → Int32} : ([0, 1, 2, 3, 4] : List Nat).map (fun i => (mcX8_cutToken n_text f_fault f_place f_tokens f_now f_kind f_start f_value f_open f_topic f_trainDue a_kinds a_starts a_values a_text)[i]?) = (mcX8_cutNumber n_text f_fault f_place f_tokens f_now f_kind f_start f_value f_open f_topic f_trainDue a_kinds a_starts a_values a_text).map (fun q => some (xrn (fun k => cond (Nat.ble 1000 k) (k - 1000 + 1000) (k + 0)) q)) := rfl
set_option maxRecDepth 100000 in
theorem se_X8_cutToken_1 {n_text : Nat} {f_fault : Int32} {f_place : Int32} {f_tokens : Int32} {f_now : Int32} {f_kind : Int32} {f_start : Int32} {f_value : Int32} {f_open : Int32} {f_topic : Int32} {f_trainDue : Bool} {a_kinds : Nat → Int32} {a_starts : Nat → Int32} {a_values : Nat → Int32} {a_text : Nat → Int32} {c_0 : Int32} {c_1 : Int32} {c_2 : Int32} {c_3 : Int32} {c_4 : Int32} {c_5 : Int32} {c_6 : Int32} {c_7 : Int32} {c_8 : Int32} {c_9 : Bool} {c_10 : Nat → Int32} {c_11 : Nat → Int32} {c_12 : Nat → Int32} {c_13 : Nat → Int32} : xmg 0 (mcX8_cutToken n_text f_fault f_place f_tokens f_now f_kind f_start f_value f_open f_topic f_trainDue a_kinds a_starts a_values a_text) [0, 1, 2, 3, 4] ((mcX8_cutNumber n_text c_0 c_1 c_2 c_3 c_4 c_5 c_6 c_7 c_8 c_9 c_10 c_11 c_12 c_13).map (xrn (fun k => cond (Nat.ble 1000 k) (k - 1000 + 1000) (k + 0)))) = mcX8_cutToken n_text c_0 c_1 c_2 c_3 c_4 c_5 c_6 c_7 c_8 c_9 c_10 c_11 c_12 c_13 := rfl
set_option maxRecDepth 100000 in
set_option maxHeartbeats 1500000 in
theorem kX8_cutToken (l : Launch) (n_text : Nat) (v_length : Int32) (v_from : Int32) (f_fault : Int32) (f_place : Int32) (f_tokens : Int32) (f_now : Int32) (f_kind : Int32) (f_start : Int32) (f_value : Int32) (f_open : Int32) (f_topic : Int32) (f_trainDue : Bool) (a_kinds : Nat → Int32) (a_starts : Nat → Int32) (a_values : Nat → Int32) (a_text : Nat → Int32) (hn_text : n_text < 2 ^ 31) : xMet l 7 yX8_cutToken cX8_cutToken 6 (some .int) [.ref 0, .ref 1000, .int v_length, .int v_from] (mcX8_cutToken n_text f_fault f_place f_tokens f_now f_kind f_start f_value f_open f_topic f_trainDue a_kinds a_starts a_values a_text) (meX8_cutToken n_text f_fault f_place f_tokens f_now f_kind f_start f_value f_open f_topic f_trainDue a_kinds a_starts a_values a_text (mX8_cutToken n_text v_length v_from f_tokens a_kinds a_starts a_values a_text)) := by
  refine xMet_of cy_X8_cutToken [some (.ref 0), some (.ref 1000), some (.int v_length), some (.int v_from), none, none] rfl (Nat.le_of_ble_eq_true rfl) (fun X K => ?_)
  have J57 : ∀ (g0_57 : n_text < 2 ^ 31), xR X (meX8_cutToken n_text f_fault f_place f_tokens f_now f_kind f_start f_value f_open f_topic f_trainDue a_kinds a_starts a_values a_text (mX8_cutToken_57 n_text v_length v_from f_tokens a_kinds a_starts a_values a_text)) 57 [some (.ref 0), some (.ref 1000), some (.int v_length), some (.int v_from), some (.int (mX11_at n_text v_from a_text)), none] [] (mcX8_cutToken n_text f_fault f_place f_tokens f_now f_kind f_start f_value f_open f_topic f_trainDue a_kinds a_starts a_values a_text) := by
    intro g0_57
    refine xR_st K pq_X8_cutToken 1 (pc' := 59) (L' := [some (.ref 0), some (.ref 1000), some (.int v_length), some (.int v_from), some (.int (mX11_at n_text v_from a_text)), none]) (S' := [.int (mX11_at n_text v_from a_text)]) (C' := mcX8_cutToken n_text f_fault f_place f_tokens f_now f_kind f_start f_value f_open f_topic f_trainDue a_kinds a_starts a_values a_text) rfl trivial ?_
    refine xR_callS3 K pq_X8_cutToken rfl lk_X8_91 cy_X8_isLetter ss_X8_isLetter ar_X8_isLetter (rest := []) (kX8_isLetter l (mX11_at n_text v_from a_text)) (by decide) (by decide) (S2 := [.int (xb (mX8_isLetter (mX11_at n_text v_from a_text)))]) (C2 := mcX8_cutToken n_text f_fault f_place f_tokens f_now f_kind f_start f_value f_open f_topic f_trainDue a_kinds a_starts a_values a_text) id [] rfl rfl (Nat.le_of_ble_eq_true rfl) rfl (by decide) rfl rfl rfl ?_
    refine xR_ib (enc := meX8_cutToken n_text f_fault f_place f_tokens f_now f_kind f_start f_value f_open f_topic f_trainDue a_kinds a_starts a_values a_text) (q1 := 65) (q2 := 73) K pq_X8_cutToken rfl (by first | exact Or.inl rfl | exact Or.inr rfl) rfl rfl (fun h6 => ?_) (fun h6 => ?_)
    · refine xR_st K pq_X8_cutToken 4 (pc' := 69) (L' := [some (.ref 0), some (.ref 1000), some (.int v_length), some (.int v_from), some (.int (mX11_at n_text v_from a_text)), none]) (S' := [.int v_from, .int v_length, .ref 1000, .ref 0]) (C' := mcX8_cutToken n_text f_fault f_place f_tokens f_now f_kind f_start f_value f_open f_topic f_trainDue a_kinds a_starts a_values a_text) rfl trivial ?_
      refine xR_let (enc := meX8_cutToken n_text f_fault f_place f_tokens f_now f_kind f_start f_value f_open f_topic f_trainDue a_kinds a_starts a_values a_text) (fun q7 hq7 => ?_)
      obtain ⟨q7_1, q7_2, q7_3, q7_4, q7_5⟩ := q7
      iterate 4 refine xR_u (enc := meX8_cutToken n_text f_fault f_place f_tokens f_now f_kind f_start f_value f_open f_topic f_trainDue a_kinds a_starts a_values a_text) ?_
      have hMq7 := kX8_cutWord l n_text v_length v_from f_fault f_place f_tokens f_now f_kind f_start f_value f_open f_topic f_trainDue a_kinds a_starts a_values a_text (by first | assumption | decide | omega)
      rw [← hq7] at hMq7
      refine xR_callV3 K pq_X8_cutToken rfl lk_X8_97 cy_X8_cutWord si_X8_cutWord ar_X8_cutWord (rest := []) hMq7 (by decide) (by decide) rfl rfl (S2 := [.int q7_1]) (C2 := mcX8_cutToken n_text f_fault f_place q7_2 f_now f_kind f_start f_value f_open f_topic f_trainDue q7_3 q7_4 q7_5 a_text) (fun k => cond (Nat.ble 1000 k) (k - 1000 + 1000) (k + 0)) [0, 1, 2, 3, 4] rfl rfl (Nat.le_of_ble_eq_true rfl) sh_X8_cutToken_0 (by decide) rfl rfl se_X8_cutToken_0 ?_
      exact xR_ret K pq_X8_cutToken rfl
    · refine xR_st K pq_X8_cutToken 1 (pc' := 75) (L' := [some (.ref 0), some (.ref 1000), some (.int v_length), some (.int v_from), some (.int (mX11_at n_text v_from a_text)), none]) (S' := [.int (mX11_at n_text v_from a_text)]) (C' := mcX8_cutToken n_text f_fault f_place f_tokens f_now f_kind f_start f_value f_open f_topic f_trainDue a_kinds a_starts a_values a_text) rfl trivial ?_
      refine xR_callS3 K pq_X8_cutToken rfl lk_X8_94 cy_X8_isDigit ss_X8_isDigit ar_X8_isDigit (rest := []) (kX8_isDigit l (mX11_at n_text v_from a_text)) (by decide) (by decide) (S2 := [.int (xb (mX8_isDigit (mX11_at n_text v_from a_text)))]) (C2 := mcX8_cutToken n_text f_fault f_place f_tokens f_now f_kind f_start f_value f_open f_topic f_trainDue a_kinds a_starts a_values a_text) id [] rfl rfl (Nat.le_of_ble_eq_true rfl) rfl (by decide) rfl rfl rfl ?_
      refine xR_ib (enc := meX8_cutToken n_text f_fault f_place f_tokens f_now f_kind f_start f_value f_open f_topic f_trainDue a_kinds a_starts a_values a_text) (q1 := 81) (q2 := 89) K pq_X8_cutToken rfl (by first | exact Or.inl rfl | exact Or.inr rfl) rfl rfl (fun h8 => ?_) (fun h8 => ?_)
      · refine xR_st K pq_X8_cutToken 4 (pc' := 85) (L' := [some (.ref 0), some (.ref 1000), some (.int v_length), some (.int v_from), some (.int (mX11_at n_text v_from a_text)), none]) (S' := [.int v_from, .int v_length, .ref 1000, .ref 0]) (C' := mcX8_cutToken n_text f_fault f_place f_tokens f_now f_kind f_start f_value f_open f_topic f_trainDue a_kinds a_starts a_values a_text) rfl trivial ?_
        refine xR_let (enc := meX8_cutToken n_text f_fault f_place f_tokens f_now f_kind f_start f_value f_open f_topic f_trainDue a_kinds a_starts a_values a_text) (fun q9 hq9 => ?_)
        obtain ⟨q9_1, q9_2, q9_3, q9_4, q9_5⟩ := q9
        iterate 4 refine xR_u (enc := meX8_cutToken n_text f_fault f_place f_tokens f_now f_kind f_start f_value f_open f_topic f_trainDue a_kinds a_starts a_values a_text) ?_
        have hMq9 := kX8_cutNumber l n_text v_length v_from f_fault f_place f_tokens f_now f_kind f_start f_value f_open f_topic f_trainDue a_kinds a_starts a_values a_text (by first | assumption | decide | omega)
        rw [← hq9] at hMq9
        refine xR_callV3 K pq_X8_cutToken rfl lk_X8_100 cy_X8_cutNumber si_X8_cutNumber ar_X8_cutNumber (rest := []) hMq9 (by decide) (by decide) rfl rfl (S2 := [.int q9_1]) (C2 := mcX8_cutToken n_text f_fault f_place q9_2 f_now f_kind f_start f_value f_open f_topic f_trainDue q9_3 q9_4 q9_5 a_text) (fun k => cond (Nat.ble 1000 k) (k - 1000 + 1000) (k + 0)) [0, 1, 2, 3, 4] rfl rfl (Nat.le_of_ble_eq_true rfl) sh_X8_cutToken_1 (by decide) rfl rfl se_X8_cutToken_1 ?_
        exact xR_ret K pq_X8_cutToken rfl
      · refine xR_st K pq_X8_cutToken 4 (pc' := 94) (L' := [some (.ref 0), some (.ref 1000), some (.int v_length), some (.int v_from), some (.int (mX11_at n_text v_from a_text)), none]) (S' := [.int (mX11_at n_text v_from a_text), .int v_from, .int 5, .ref 0]) (C' := mcX8_cutToken n_text f_fault f_place f_tokens f_now f_kind f_start f_value f_open f_topic f_trainDue a_kinds a_starts a_values a_text) rfl trivial ?_
        refine xR_let (enc := meX8_cutToken n_text f_fault f_place f_tokens f_now f_kind f_start f_value f_open f_topic f_trainDue a_kinds a_starts a_values a_text) (fun q10 hq10 => ?_)
        obtain ⟨q10_1, q10_2, q10_3, q10_4⟩ := q10
        iterate 3 refine xR_u (enc := meX8_cutToken n_text f_fault f_place f_tokens f_now f_kind f_start f_value f_open f_topic f_trainDue a_kinds a_starts a_values a_text) ?_
        have hMq10 := kX8_addToken l (5 : Int32) v_from (mX11_at n_text v_from a_text) f_fault f_place f_tokens f_now f_kind f_start f_value f_open f_topic f_trainDue a_kinds a_starts a_values
        rw [← hq10] at hMq10
        refine xR_callV3 K pq_X8_cutToken rfl lk_X8_87 cy_X8_addToken si_X8_addToken ar_X8_addToken (rest := []) hMq10 (by decide) (by decide) rfl rfl (S2 := []) (C2 := mcX8_cutToken n_text f_fault f_place q10_1 f_now f_kind f_start f_value f_open f_topic f_trainDue q10_2 q10_3 q10_4 a_text) id [0, 1, 2, 3] rfl rfl (Nat.le_of_ble_eq_true rfl) rfl (by decide) rfl rfl rfl ?_
        refine xR_st K pq_X8_cutToken 3 (pc' := 100) (L' := [some (.ref 0), some (.ref 1000), some (.int v_length), some (.int v_from), some (.int (mX11_at n_text v_from a_text)), none]) (S' := [.int (v_from + 1)]) (C' := mcX8_cutToken n_text f_fault f_place q10_1 f_now f_kind f_start f_value f_open f_topic f_trainDue q10_2 q10_3 q10_4 a_text) rfl trivial ?_
        exact xR_ret K pq_X8_cutToken rfl
  have J48 : ∀ (g0_48 : n_text < 2 ^ 31), xR X (meX8_cutToken n_text f_fault f_place f_tokens f_now f_kind f_start f_value f_open f_topic f_trainDue a_kinds a_starts a_values a_text (mX8_cutToken_48 v_length v_from f_tokens a_kinds a_starts a_values)) 48 [some (.ref 0), none, some (.int v_length), some (.int v_from), none, none] [] (mcX8_cutToken n_text f_fault f_place f_tokens f_now f_kind f_start f_value f_open f_topic f_trainDue a_kinds a_starts a_values a_text) := by
    intro g0_48
    refine xR_st K pq_X8_cutToken 4 (pc' := 52) (L' := [some (.ref 0), none, some (.int v_length), some (.int v_from), none, none]) (S' := [.int v_from, .int v_from, .int 1, .ref 0]) (C' := mcX8_cutToken n_text f_fault f_place f_tokens f_now f_kind f_start f_value f_open f_topic f_trainDue a_kinds a_starts a_values a_text) rfl trivial ?_
    refine xR_let (enc := meX8_cutToken n_text f_fault f_place f_tokens f_now f_kind f_start f_value f_open f_topic f_trainDue a_kinds a_starts a_values a_text) (fun q5 hq5 => ?_)
    obtain ⟨q5_1, q5_2, q5_3, q5_4⟩ := q5
    iterate 3 refine xR_u (enc := meX8_cutToken n_text f_fault f_place f_tokens f_now f_kind f_start f_value f_open f_topic f_trainDue a_kinds a_starts a_values a_text) ?_
    have hMq5 := kX8_addToken l (1 : Int32) v_from v_from f_fault f_place f_tokens f_now f_kind f_start f_value f_open f_topic f_trainDue a_kinds a_starts a_values
    rw [← hq5] at hMq5
    refine xR_callV3 K pq_X8_cutToken rfl lk_X8_87 cy_X8_addToken si_X8_addToken ar_X8_addToken (rest := []) hMq5 (by decide) (by decide) rfl rfl (S2 := []) (C2 := mcX8_cutToken n_text f_fault f_place q5_1 f_now f_kind f_start f_value f_open f_topic f_trainDue q5_2 q5_3 q5_4 a_text) id [0, 1, 2, 3] rfl rfl (Nat.le_of_ble_eq_true rfl) rfl (by decide) rfl rfl rfl ?_
    refine xR_st K pq_X8_cutToken 1 (pc' := 56) (L' := [some (.ref 0), none, some (.int v_length), some (.int v_from), none, none]) (S' := [.int v_length]) (C' := mcX8_cutToken n_text f_fault f_place q5_1 f_now f_kind f_start f_value f_open f_topic f_trainDue q5_2 q5_3 q5_4 a_text) rfl trivial ?_
    exact xR_ret K pq_X8_cutToken rfl
  have J32 : ∀ (g0_32 : n_text < 2 ^ 31), xR X (meX8_cutToken n_text f_fault f_place f_tokens f_now f_kind f_start f_value f_open f_topic f_trainDue a_kinds a_starts a_values a_text (mX8_cutToken_32 n_text v_length v_from f_tokens a_kinds a_starts a_values a_text)) 32 [some (.ref 0), some (.ref 1000), some (.int v_length), some (.int v_from), some (.int (mX11_at n_text v_from a_text)), some (.int (mX11_at n_text (v_from - 1) a_text))] [] (mcX8_cutToken n_text f_fault f_place f_tokens f_now f_kind f_start f_value f_open f_topic f_trainDue a_kinds a_starts a_values a_text) := by
    intro g0_32
    refine xR_st K pq_X8_cutToken 1 (pc' := 34) (L' := [some (.ref 0), some (.ref 1000), some (.int v_length), some (.int v_from), some (.int (mX11_at n_text v_from a_text)), some (.int (mX11_at n_text (v_from - 1) a_text))]) (S' := [.int (mX11_at n_text v_from a_text)]) (C' := mcX8_cutToken n_text f_fault f_place f_tokens f_now f_kind f_start f_value f_open f_topic f_trainDue a_kinds a_starts a_values a_text) rfl trivial ?_
    refine xR_callS3 K pq_X8_cutToken rfl lk_X8_94 cy_X8_isDigit ss_X8_isDigit ar_X8_isDigit (rest := []) (kX8_isDigit l (mX11_at n_text v_from a_text)) (by decide) (by decide) (S2 := [.int (xb (mX8_isDigit (mX11_at n_text v_from a_text)))]) (C2 := mcX8_cutToken n_text f_fault f_place f_tokens f_now f_kind f_start f_value f_open f_topic f_trainDue a_kinds a_starts a_values a_text) id [] rfl rfl (Nat.le_of_ble_eq_true rfl) rfl (by decide) rfl rfl rfl ?_
    refine xR_ib (enc := meX8_cutToken n_text f_fault f_place f_tokens f_now f_kind f_start f_value f_open f_topic f_trainDue a_kinds a_starts a_values a_text) (q1 := 40) (q2 := 57) K pq_X8_cutToken rfl (by first | exact Or.inl rfl | exact Or.inr rfl) rfl rfl (fun h3 => ?_) (fun h3 => ?_)
    · refine xR_st K pq_X8_cutToken 1 (pc' := 42) (L' := [some (.ref 0), some (.ref 1000), some (.int v_length), some (.int v_from), some (.int (mX11_at n_text v_from a_text)), some (.int (mX11_at n_text (v_from - 1) a_text))]) (S' := [.int (mX11_at n_text (v_from - 1) a_text)]) (C' := mcX8_cutToken n_text f_fault f_place f_tokens f_now f_kind f_start f_value f_open f_topic f_trainDue a_kinds a_starts a_values a_text) rfl trivial ?_
      refine xR_callS3 K pq_X8_cutToken rfl lk_X8_91 cy_X8_isLetter ss_X8_isLetter ar_X8_isLetter (rest := []) (kX8_isLetter l (mX11_at n_text (v_from - 1) a_text)) (by decide) (by decide) (S2 := [.int (xb (mX8_isLetter (mX11_at n_text (v_from - 1) a_text)))]) (C2 := mcX8_cutToken n_text f_fault f_place f_tokens f_now f_kind f_start f_value f_open f_topic f_trainDue a_kinds a_starts a_values a_text) id [] rfl rfl (Nat.le_of_ble_eq_true rfl) rfl (by decide) rfl rfl rfl ?_
      refine xR_ib (enc := meX8_cutToken n_text f_fault f_place f_tokens f_now f_kind f_start f_value f_open f_topic f_trainDue a_kinds a_starts a_values a_text) (q1 := 48) (q2 := 57) K pq_X8_cutToken rfl (by first | exact Or.inl rfl | exact Or.inr rfl) rfl rfl (fun h4 => ?_) (fun h4 => ?_)
      · exact xR_less2 (J48 g0_32) ⟨rfl, rfl, rfl, trivial⟩
      · exact xR_less2 (J57 g0_32) ⟨rfl, rfl, rfl, rfl, rfl, trivial⟩
    · exact xR_less2 (J57 g0_32) ⟨rfl, rfl, rfl, rfl, rfl, trivial⟩
  refine xR_st K pq_X8_cutToken 2 (pc' := 2) (L' := [some (.ref 0), some (.ref 1000), some (.int v_length), some (.int v_from), none, none]) (S' := [.int v_from, .ref 1000]) (C' := mcX8_cutToken n_text f_fault f_place f_tokens f_now f_kind f_start f_value f_open f_topic f_trainDue a_kinds a_starts a_values a_text) rfl trivial ?_
  refine xR_callS3 K pq_X8_cutToken rfl lk_X8_75 cy_X11_at ss_X11_at ar_X11_at (rest := []) (kX11_at l n_text v_from a_text (by first | assumption | decide | omega)) (by decide) (by decide) (S2 := [.int (mX11_at n_text v_from a_text)]) (C2 := mcX8_cutToken n_text f_fault f_place f_tokens f_now f_kind f_start f_value f_open f_topic f_trainDue a_kinds a_starts a_values a_text) (fun k => k - 1000 + 1000) [4] rfl rfl (Nat.le_of_ble_eq_true rfl) rfl (by decide) rfl rfl rfl ?_
  refine xR_st K pq_X8_cutToken 5 (pc' := 11) (L' := [some (.ref 0), some (.ref 1000), some (.int v_length), some (.int v_from), some (.int (mX11_at n_text v_from a_text)), none]) (S' := [.int (v_from - 1), .ref 1000]) (C' := mcX8_cutToken n_text f_fault f_place f_tokens f_now f_kind f_start f_value f_open f_topic f_trainDue a_kinds a_starts a_values a_text) rfl trivial ?_
  refine xR_callS3 K pq_X8_cutToken rfl lk_X8_75 cy_X11_at ss_X11_at ar_X11_at (rest := []) (kX11_at l n_text (v_from - 1) a_text (by first | assumption | decide | omega)) (by decide) (by decide) (S2 := [.int (mX11_at n_text (v_from - 1) a_text)]) (C2 := mcX8_cutToken n_text f_fault f_place f_tokens f_now f_kind f_start f_value f_open f_topic f_trainDue a_kinds a_starts a_values a_text) (fun k => k - 1000 + 1000) [4] rfl rfl (Nat.le_of_ble_eq_true rfl) rfl (by decide) rfl rfl rfl ?_
  refine xR_st K pq_X8_cutToken 2 (pc' := 18) (L' := [some (.ref 0), some (.ref 1000), some (.int v_length), some (.int v_from), some (.int (mX11_at n_text v_from a_text)), some (.int (mX11_at n_text (v_from - 1) a_text))]) (S' := [.int (mX11_at n_text v_from a_text)]) (C' := mcX8_cutToken n_text f_fault f_place f_tokens f_now f_kind f_start f_value f_open f_topic f_trainDue a_kinds a_starts a_values a_text) rfl trivial ?_
  refine xR_callS3 K pq_X8_cutToken rfl lk_X8_91 cy_X8_isLetter ss_X8_isLetter ar_X8_isLetter (rest := []) (kX8_isLetter l (mX11_at n_text v_from a_text)) (by decide) (by decide) (S2 := [.int (xb (mX8_isLetter (mX11_at n_text v_from a_text)))]) (C2 := mcX8_cutToken n_text f_fault f_place f_tokens f_now f_kind f_start f_value f_open f_topic f_trainDue a_kinds a_starts a_values a_text) id [] rfl rfl (Nat.le_of_ble_eq_true rfl) rfl (by decide) rfl rfl rfl ?_
  refine xR_ib (enc := meX8_cutToken n_text f_fault f_place f_tokens f_now f_kind f_start f_value f_open f_topic f_trainDue a_kinds a_starts a_values a_text) (q1 := 24) (q2 := 32) K pq_X8_cutToken rfl (by first | exact Or.inl rfl | exact Or.inr rfl) rfl rfl (fun h1 => ?_) (fun h1 => ?_)
  · refine xR_st K pq_X8_cutToken 1 (pc' := 26) (L' := [some (.ref 0), some (.ref 1000), some (.int v_length), some (.int v_from), some (.int (mX11_at n_text v_from a_text)), some (.int (mX11_at n_text (v_from - 1) a_text))]) (S' := [.int (mX11_at n_text (v_from - 1) a_text)]) (C' := mcX8_cutToken n_text f_fault f_place f_tokens f_now f_kind f_start f_value f_open f_topic f_trainDue a_kinds a_starts a_values a_text) rfl trivial ?_
    refine xR_callS3 K pq_X8_cutToken rfl lk_X8_94 cy_X8_isDigit ss_X8_isDigit ar_X8_isDigit (rest := []) (kX8_isDigit l (mX11_at n_text (v_from - 1) a_text)) (by decide) (by decide) (S2 := [.int (xb (mX8_isDigit (mX11_at n_text (v_from - 1) a_text)))]) (C2 := mcX8_cutToken n_text f_fault f_place f_tokens f_now f_kind f_start f_value f_open f_topic f_trainDue a_kinds a_starts a_values a_text) id [] rfl rfl (Nat.le_of_ble_eq_true rfl) rfl (by decide) rfl rfl rfl ?_
    refine xR_ib (enc := meX8_cutToken n_text f_fault f_place f_tokens f_now f_kind f_start f_value f_open f_topic f_trainDue a_kinds a_starts a_values a_text) (q1 := 48) (q2 := 32) K pq_X8_cutToken rfl (by first | exact Or.inl rfl | exact Or.inr rfl) rfl rfl (fun h2 => ?_) (fun h2 => ?_)
    · exact xR_less2 (J48 hn_text) ⟨rfl, rfl, rfl, trivial⟩
    · exact xR_less2 (J32 hn_text) ⟨rfl, rfl, rfl, rfl, rfl, rfl, trivial⟩
  · exact xR_less2 (J32 hn_text) ⟨rfl, rfl, rfl, rfl, rfl, rfl, trivial⟩
def pg_X8_cut : xPg := [(0, .aload_n 0, .null), (1, .iconst 0, .int 0), (2, .putfield 72, .retAddr 806), (5, .iconst 0, .int 0), (6, .istore_n 3, .null), (7, .iconst 0, .int 0), (8, .istore 4, .null), (10, .iload 4, .null), (12, .sipush 1600, .int 1600), (15, .if_icmp .gt 43, .retAddr 58), (18, .iload_n 3, .null), (19, .iload_n 2, .null), (20, .if_icmp .ge 38, .retAddr 58), (23, .aload_n 1, .null), (24, .iload_n 3, .null), (25, .invokestatic 75, .null), (28, .istore 5, .null), (30, .iload 5, .null), (32, .invokestatic 79, .null), (35, .ifCond .eq 9, .retAddr 44), (38, .iinc 3 1, .int 1), (41, .goto 11, .retAddr 52), (44, .aload_n 0, .null), (45, .aload_n 1, .null), (46, .iload_n 2, .null), (47, .iload_n 3, .null), (48, .invokevirtual 83, .null), (51, .istore_n 3, .null), (52, .iinc 4 1, .int 1), (55, .goto (-45), .retAddr 10), (58, .aload_n 0, .null), (59, .iconst 0, .int 0), (60, .iload_n 2, .null), (61, .iconst 0, .int 0), (62, .invokevirtual 87, .null), (65, .return_, .null)]
theorem pq_X8_cut : xPq RX8 cX8_cut tb_X8 pg_X8_cut := ⟨tab_X8, xPok_of (by decide +kernel)⟩
theorem cy_X8_cut : xCy yX8_cut cX8_cut 6 none := ⟨xtb_in (i := 698) (by decide +kernel) rfl, xtb_in (i := 154) (by decide +kernel) rfl, by decide +kernel, by decide +kernel⟩
theorem si_X8_cut : Cond.instanceMethod yX8_cut ∈ xtb ∧ Cond.selects yX8_cut.cls yX8_cut yX8_cut ∈ xtb := ⟨xtb_in (i := 697) (by decide +kernel) rfl, xtb_in (i := 3) (by decide +kernel) rfl⟩
theorem ar_X8_cut : xar yX8_cut 2 := by unfold xar; decide +kernel
def mcX8_cut (n_text : Nat) (f_fault : Int32) (f_place : Int32) (f_tokens : Int32) (f_now : Int32) (f_kind : Int32) (f_start : Int32) (f_value : Int32) (f_open : Int32) (f_topic : Int32) (f_trainDue : Bool) (a_kinds : Nat → Int32) (a_starts : Nat → Int32) (a_values : Nat → Int32) (a_text : Nat → Int32) : xC := [(0, .inr (8, [.ref 1, .ref 2, .ref 3, .int f_fault, .int f_place, .ref 4, .int f_tokens, .int f_now, .int f_kind, .int f_start, .int f_value, .int f_open, .int f_topic, .int (xb f_trainDue)])), (1, .inl (0, 1601, .inl a_kinds)), (2, .inl (0, 1601, .inl a_starts)), (3, .inl (0, 1601, .inl a_values)), (1000, .inl (0, n_text, .inl a_text))]
def meX8_cut (n_text : Nat) (f_fault : Int32) (f_place : Int32) (f_tokens : Int32) (f_now : Int32) (f_kind : Int32) (f_start : Int32) (f_value : Int32) (f_open : Int32) (f_topic : Int32) (f_trainDue : Bool) (a_kinds : Nat → Int32) (a_starts : Nat → Int32) (a_values : Nat → Int32) (a_text : Nat → Int32) : Int32 × (Nat → Int32) × (Nat → Int32) × (Nat → Int32) → xRes := fun r => some (none, mcX8_cut n_text f_fault f_place r.1 f_now f_kind f_start f_value f_open f_topic f_trainDue r.2.1 r.2.2.1 r.2.2.2 a_text)
def mX8_cut_10 (n_text : Nat) (v_length : Int32) (a_text : Nat → Int32)  : Nat → Nat → Int32 → Int32 → (Nat → Int32) → (Nat → Int32) → (Nat → Int32) → Int32 × (Nat → Int32) × (Nat → Int32) × (Nat → Int32)
  | 0, i10, x3_10, f_tokens_10, a_kinds_10, a_starts_10, a_values_10 => xlet (mX8_addToken (0 : Int32) v_length (0 : Int32) f_tokens_10 a_kinds_10 a_starts_10 a_values_10) (xu fun q5_1 => xu fun q5_2 => xu fun q5_3 => fun q5_4 =>
      (q5_1, q5_2, q5_3, q5_4))
  | k10 + 1, i10, x3_10, f_tokens_10, a_kinds_10, a_starts_10, a_values_10 =>
    if x3_10 < v_length then
      if (mX8_isBlank (mX11_at n_text x3_10 a_text)) = true then
        mX8_cut_10 n_text v_length a_text k10 (i10 + 1) (x3_10 + 1) f_tokens_10 a_kinds_10 a_starts_10 a_values_10
      else
        xlet (mX8_cutToken n_text v_length x3_10 f_tokens_10 a_kinds_10 a_starts_10 a_values_10 a_text) (xu fun q3_1 => xu fun q3_2 => xu fun q3_3 => xu fun q3_4 => fun q3_5 =>
          mX8_cut_10 n_text v_length a_text k10 (i10 + 1) q3_1 q3_2 q3_3 q3_4 q3_5)
    else
      xlet (mX8_addToken (0 : Int32) v_length (0 : Int32) f_tokens_10 a_kinds_10 a_starts_10 a_values_10) (xu fun q4_1 => xu fun q4_2 => xu fun q4_3 => fun q4_4 =>
        (q4_1, q4_2, q4_3, q4_4))
def mX8_cut (n_text : Nat) (v_length : Int32) (a_kinds : Nat → Int32) (a_starts : Nat → Int32) (a_values : Nat → Int32) (a_text : Nat → Int32) : Int32 × (Nat → Int32) × (Nat → Int32) × (Nat → Int32) :=
  mX8_cut_10 n_text v_length a_text 1601 0 (0 : Int32) (0 : Int32) a_kinds a_starts a_values
set_option maxRecDepth 100000 in
theorem sh_X8_cut_0 {n_text : Nat} {f_fault : Int32} {f_place : Int32} {f_tokens : Int32} {f_now : Int32} {f_kind : Int32} {f_start : Int32} {f_value : Int32} {f_open : Int32} {f_topic : Int32} {f_trainDue : Bool} {a_kinds : Nat → Int32} {a_starts : Nat → Int32} {a_values : Nat → Int32} {a_text : Nat → Int32} : ([0, 1, 2, 3, 4] : List Nat).map (fun i => (mcX8_cut n_text f_fault f_place f_tokens f_now f_kind f_start f_value f_open f_topic f_trainDue a_kinds a_starts a_values a_text)[i]?) = (mcX8_cutToken n_text f_fault f_place f_tokens f_now f_kind f_start f_value f_open f_topic f_trainDue a_kinds a_starts a_values a_text).map (fun q => some (xrn (fun k => cond (Nat.ble 1000 k) (k - 1000 + 1000) (k + 0)) q)) := rfl
set_option maxRecDepth 100000 in
theorem se_X8_cut_0 {n_text : Nat} {f_fault : Int32} {f_place : Int32} {f_tokens : Int32} {f_now : Int32} {f_kind : Int32} {f_start : Int32} {f_value : Int32} {f_open : Int32} {f_topic : Int32} {f_trainDue : Bool} {a_kinds : Nat → Int32} {a_starts : Nat → Int32} {a_values : Nat → Int32} {a_text : Nat → Int32} {c_0 : Int32} {c_1 : Int32} {c_2 : Int32} {c_3 : Int32} {c_4 : Int32} {c_5 : Int32} {c_6 : Int32} {c_7 : Int32} {c_8 : Int32} {c_9 : Bool} {c_10 : Nat → Int32} {c_11 : Nat → Int32} {c_12 : Nat → Int32} {c_13 : Nat → Int32} : xmg 0 (mcX8_cut n_text f_fault f_place f_tokens f_now f_kind f_start f_value f_open f_topic f_trainDue a_kinds a_starts a_values a_text) [0, 1, 2, 3, 4] ((mcX8_cutToken n_text c_0 c_1 c_2 c_3 c_4 c_5 c_6 c_7 c_8 c_9 c_10 c_11 c_12 c_13).map (xrn (fun k => cond (Nat.ble 1000 k) (k - 1000 + 1000) (k + 0)))) = mcX8_cut n_text c_0 c_1 c_2 c_3 c_4 c_5 c_6 c_7 c_8 c_9 c_10 c_11 c_12 c_13 := rfl
set_option maxRecDepth 100000 in
set_option maxHeartbeats 1500000 in
theorem kX8_cut (l : Launch) (n_text : Nat) (v_length : Int32) (f_fault : Int32) (f_place : Int32) (f_tokens : Int32) (f_now : Int32) (f_kind : Int32) (f_start : Int32) (f_value : Int32) (f_open : Int32) (f_topic : Int32) (f_trainDue : Bool) (a_kinds : Nat → Int32) (a_starts : Nat → Int32) (a_values : Nat → Int32) (a_text : Nat → Int32) (hn_text : n_text < 2 ^ 31) : xMet l 8 yX8_cut cX8_cut 6 none [.ref 0, .ref 1000, .int v_length] (mcX8_cut n_text f_fault f_place f_tokens f_now f_kind f_start f_value f_open f_topic f_trainDue a_kinds a_starts a_values a_text) (meX8_cut n_text f_fault f_place f_tokens f_now f_kind f_start f_value f_open f_topic f_trainDue a_kinds a_starts a_values a_text (mX8_cut n_text v_length a_kinds a_starts a_values a_text)) := by
  refine xMet_of cy_X8_cut [some (.ref 0), some (.ref 1000), some (.int v_length), none, none, none] rfl (Nat.le_of_ble_eq_true rfl) (fun X K => ?_)
  have J10 : ∀ (k10 i10 : Nat) (x3_10 : Int32) (f_tokens_10 : Int32) (a_kinds_10 : Nat → Int32) (a_starts_10 : Nat → Int32) (a_values_10 : Nat → Int32) (hik10 : i10 + k10 = 1601) (g0_10 : n_text < 2 ^ 31), xR X (meX8_cut n_text f_fault f_place f_tokens f_now f_kind f_start f_value f_open f_topic f_trainDue a_kinds a_starts a_values a_text (mX8_cut_10 n_text v_length a_text k10 i10 x3_10 f_tokens_10 a_kinds_10 a_starts_10 a_values_10)) 10 [some (.ref 0), some (.ref 1000), some (.int v_length), some (.int x3_10), some (.int (nI i10)), none] [] (mcX8_cut n_text f_fault f_place f_tokens_10 f_now f_kind f_start f_value f_open f_topic f_trainDue a_kinds_10 a_starts_10 a_values_10 a_text) := by
    intro k10
    induction k10 with
    | zero =>
      intro i10 x3_10 f_tokens_10 a_kinds_10 a_starts_10 a_values_10 hik10 g0_10
      rw [mX8_cut_10.eq_1]
      refine xR_st K pq_X8_cut 2 (pc' := 15) (L' := [some (.ref 0), some (.ref 1000), some (.int v_length), some (.int x3_10), some (.int (nI i10)), none]) (S' := [.int 1600, .int (nI i10)]) (C' := mcX8_cut n_text f_fault f_place f_tokens_10 f_now f_kind f_start f_value f_open f_topic f_trainDue a_kinds_10 a_starts_10 a_values_10 a_text) rfl trivial ?_
      refine xR_if2 K pq_X8_cut rfl ⟨rfl, rfl⟩ (fun _ => ?_) (fun hx => absurd (Decidable.not_not.mp (xgt_yes 1601 hik10 (by decide))) hx)
      refine xR_st K pq_X8_cut 4 (pc' := 62) (L' := [some (.ref 0), some (.ref 1000), some (.int v_length), some (.int x3_10), some (.int (nI i10)), none]) (S' := [.int 0, .int v_length, .int 0, .ref 0]) (C' := mcX8_cut n_text f_fault f_place f_tokens_10 f_now f_kind f_start f_value f_open f_topic f_trainDue a_kinds_10 a_starts_10 a_values_10 a_text) rfl trivial ?_
      refine xR_let (enc := meX8_cut n_text f_fault f_place f_tokens f_now f_kind f_start f_value f_open f_topic f_trainDue a_kinds a_starts a_values a_text) (fun q5 hq5 => ?_)
      obtain ⟨q5_1, q5_2, q5_3, q5_4⟩ := q5
      iterate 3 refine xR_u (enc := meX8_cut n_text f_fault f_place f_tokens f_now f_kind f_start f_value f_open f_topic f_trainDue a_kinds a_starts a_values a_text) ?_
      have hMq5 := kX8_addToken l (0 : Int32) v_length (0 : Int32) f_fault f_place f_tokens_10 f_now f_kind f_start f_value f_open f_topic f_trainDue a_kinds_10 a_starts_10 a_values_10
      rw [← hq5] at hMq5
      refine xR_callV3 K pq_X8_cut rfl lk_X8_87 cy_X8_addToken si_X8_addToken ar_X8_addToken (rest := []) hMq5 (by decide) (by decide) rfl rfl (S2 := []) (C2 := mcX8_cut n_text f_fault f_place q5_1 f_now f_kind f_start f_value f_open f_topic f_trainDue q5_2 q5_3 q5_4 a_text) id [0, 1, 2, 3] rfl rfl (Nat.le_of_ble_eq_true rfl) rfl (by decide) rfl rfl rfl ?_
      exact xR_retv K pq_X8_cut rfl
    | succ k10 ih =>
      intro i10 x3_10 f_tokens_10 a_kinds_10 a_starts_10 a_values_10 hik10 g0_10
      rw [mX8_cut_10.eq_2]
      refine xR_st K pq_X8_cut 2 (pc' := 15) (L' := [some (.ref 0), some (.ref 1000), some (.int v_length), some (.int x3_10), some (.int (nI i10)), none]) (S' := [.int 1600, .int (nI i10)]) (C' := mcX8_cut n_text f_fault f_place f_tokens_10 f_now f_kind f_start f_value f_open f_topic f_trainDue a_kinds_10 a_starts_10 a_values_10 a_text) rfl trivial ?_
      refine xR_if2 K pq_X8_cut rfl ⟨rfl, rfl⟩ (fun hx => absurd hx (xgt_no 1601 hik10 (by decide))) (fun _ => ?_)
      refine xR_st K pq_X8_cut 2 (pc' := 20) (L' := [some (.ref 0), some (.ref 1000), some (.int v_length), some (.int x3_10), some (.int (nI i10)), none]) (S' := [.int v_length, .int x3_10]) (C' := mcX8_cut n_text f_fault f_place f_tokens_10 f_now f_kind f_start f_value f_open f_topic f_trainDue a_kinds_10 a_starts_10 a_values_10 a_text) rfl trivial ?_
      refine xR_i2 (enc := meX8_cut n_text f_fault f_place f_tokens f_now f_kind f_start f_value f_open f_topic f_trainDue a_kinds a_starts a_values a_text) (q1 := 23) (q2 := 58) K pq_X8_cut rfl rfl rfl rfl (fun h1 => ?_) (fun h1 => ?_)
      · refine xR_st K pq_X8_cut 2 (pc' := 25) (L' := [some (.ref 0), some (.ref 1000), some (.int v_length), some (.int x3_10), some (.int (nI i10)), none]) (S' := [.int x3_10, .ref 1000]) (C' := mcX8_cut n_text f_fault f_place f_tokens_10 f_now f_kind f_start f_value f_open f_topic f_trainDue a_kinds_10 a_starts_10 a_values_10 a_text) rfl trivial ?_
        refine xR_callS3 K pq_X8_cut rfl lk_X8_75 cy_X11_at ss_X11_at ar_X11_at (rest := []) (kX11_at l n_text x3_10 a_text (by first | assumption | decide | omega)) (by decide) (by decide) (S2 := [.int (mX11_at n_text x3_10 a_text)]) (C2 := mcX8_cut n_text f_fault f_place f_tokens_10 f_now f_kind f_start f_value f_open f_topic f_trainDue a_kinds_10 a_starts_10 a_values_10 a_text) (fun k => k - 1000 + 1000) [4] rfl rfl (Nat.le_of_ble_eq_true rfl) rfl (by decide) rfl rfl rfl ?_
        refine xR_st K pq_X8_cut 2 (pc' := 32) (L' := [some (.ref 0), some (.ref 1000), some (.int v_length), some (.int x3_10), some (.int (nI i10)), some (.int (mX11_at n_text x3_10 a_text))]) (S' := [.int (mX11_at n_text x3_10 a_text)]) (C' := mcX8_cut n_text f_fault f_place f_tokens_10 f_now f_kind f_start f_value f_open f_topic f_trainDue a_kinds_10 a_starts_10 a_values_10 a_text) rfl trivial ?_
        refine xR_callS3 K pq_X8_cut rfl lk_X8_79 cy_X8_isBlank ss_X8_isBlank ar_X8_isBlank (rest := []) (kX8_isBlank l (mX11_at n_text x3_10 a_text)) (by decide) (by decide) (S2 := [.int (xb (mX8_isBlank (mX11_at n_text x3_10 a_text)))]) (C2 := mcX8_cut n_text f_fault f_place f_tokens_10 f_now f_kind f_start f_value f_open f_topic f_trainDue a_kinds_10 a_starts_10 a_values_10 a_text) id [] rfl rfl (Nat.le_of_ble_eq_true rfl) rfl (by decide) rfl rfl rfl ?_
        refine xR_ib (enc := meX8_cut n_text f_fault f_place f_tokens f_now f_kind f_start f_value f_open f_topic f_trainDue a_kinds a_starts a_values a_text) (q1 := 38) (q2 := 44) K pq_X8_cut rfl (by first | exact Or.inl rfl | exact Or.inr rfl) rfl rfl (fun h2 => ?_) (fun h2 => ?_)
        · refine xR_st K pq_X8_cut 4 (pc' := 10) (L' := [some (.ref 0), some (.ref 1000), some (.int v_length), some (.int (x3_10 + 1)), some (.int ((nI i10) + 1)), some (.int (mX11_at n_text x3_10 a_text))]) (S' := []) (C' := mcX8_cut n_text f_fault f_place f_tokens_10 f_now f_kind f_start f_value f_open f_topic f_trainDue a_kinds_10 a_starts_10 a_values_10 a_text) rfl trivial ?_
          exact xR_less2 (ih (i10 + 1) _ _ _ _ _ (by omega) g0_10) ⟨rfl, rfl, rfl, rfl, xcnt i10, trivial⟩
        · refine xR_st K pq_X8_cut 4 (pc' := 48) (L' := [some (.ref 0), some (.ref 1000), some (.int v_length), some (.int x3_10), some (.int (nI i10)), some (.int (mX11_at n_text x3_10 a_text))]) (S' := [.int x3_10, .int v_length, .ref 1000, .ref 0]) (C' := mcX8_cut n_text f_fault f_place f_tokens_10 f_now f_kind f_start f_value f_open f_topic f_trainDue a_kinds_10 a_starts_10 a_values_10 a_text) rfl trivial ?_
          refine xR_let (enc := meX8_cut n_text f_fault f_place f_tokens f_now f_kind f_start f_value f_open f_topic f_trainDue a_kinds a_starts a_values a_text) (fun q3 hq3 => ?_)
          obtain ⟨q3_1, q3_2, q3_3, q3_4, q3_5⟩ := q3
          iterate 4 refine xR_u (enc := meX8_cut n_text f_fault f_place f_tokens f_now f_kind f_start f_value f_open f_topic f_trainDue a_kinds a_starts a_values a_text) ?_
          have hMq3 := kX8_cutToken l n_text v_length x3_10 f_fault f_place f_tokens_10 f_now f_kind f_start f_value f_open f_topic f_trainDue a_kinds_10 a_starts_10 a_values_10 a_text (by first | assumption | decide | omega)
          rw [← hq3] at hMq3
          refine xR_callV3 K pq_X8_cut rfl lk_X8_83 cy_X8_cutToken si_X8_cutToken ar_X8_cutToken (rest := []) hMq3 (by decide) (by decide) rfl rfl (S2 := [.int q3_1]) (C2 := mcX8_cut n_text f_fault f_place q3_2 f_now f_kind f_start f_value f_open f_topic f_trainDue q3_3 q3_4 q3_5 a_text) (fun k => cond (Nat.ble 1000 k) (k - 1000 + 1000) (k + 0)) [0, 1, 2, 3, 4] rfl rfl (Nat.le_of_ble_eq_true rfl) sh_X8_cut_0 (by decide) rfl rfl se_X8_cut_0 ?_
          refine xR_st K pq_X8_cut 3 (pc' := 10) (L' := [some (.ref 0), some (.ref 1000), some (.int v_length), some (.int q3_1), some (.int ((nI i10) + 1)), some (.int (mX11_at n_text x3_10 a_text))]) (S' := []) (C' := mcX8_cut n_text f_fault f_place q3_2 f_now f_kind f_start f_value f_open f_topic f_trainDue q3_3 q3_4 q3_5 a_text) rfl trivial ?_
          exact xR_less2 (ih (i10 + 1) _ _ _ _ _ (by omega) g0_10) ⟨rfl, rfl, rfl, rfl, xcnt i10, trivial⟩
      · refine xR_st K pq_X8_cut 4 (pc' := 62) (L' := [some (.ref 0), some (.ref 1000), some (.int v_length), some (.int x3_10), some (.int (nI i10)), none]) (S' := [.int 0, .int v_length, .int 0, .ref 0]) (C' := mcX8_cut n_text f_fault f_place f_tokens_10 f_now f_kind f_start f_value f_open f_topic f_trainDue a_kinds_10 a_starts_10 a_values_10 a_text) rfl trivial ?_
        refine xR_let (enc := meX8_cut n_text f_fault f_place f_tokens f_now f_kind f_start f_value f_open f_topic f_trainDue a_kinds a_starts a_values a_text) (fun q4 hq4 => ?_)
        obtain ⟨q4_1, q4_2, q4_3, q4_4⟩ := q4
        iterate 3 refine xR_u (enc := meX8_cut n_text f_fault f_place f_tokens f_now f_kind f_start f_value f_open f_topic f_trainDue a_kinds a_starts a_values a_text) ?_
        have hMq4 := kX8_addToken l (0 : Int32) v_length (0 : Int32) f_fault f_place f_tokens_10 f_now f_kind f_start f_value f_open f_topic f_trainDue a_kinds_10 a_starts_10 a_values_10
        rw [← hq4] at hMq4
        refine xR_callV3 K pq_X8_cut rfl lk_X8_87 cy_X8_addToken si_X8_addToken ar_X8_addToken (rest := []) hMq4 (by decide) (by decide) rfl rfl (S2 := []) (C2 := mcX8_cut n_text f_fault f_place q4_1 f_now f_kind f_start f_value f_open f_topic f_trainDue q4_2 q4_3 q4_4 a_text) id [0, 1, 2, 3] rfl rfl (Nat.le_of_ble_eq_true rfl) rfl (by decide) rfl rfl rfl ?_
        exact xR_retv K pq_X8_cut rfl
  refine xR_st K pq_X8_cut 7 (pc' := 10) (L' := [some (.ref 0), some (.ref 1000), some (.int v_length), some (.int 0), some (.int 0), none]) (S' := []) (C' := mcX8_cut n_text f_fault f_place (0 : Int32) f_now f_kind f_start f_value f_open f_topic f_trainDue a_kinds a_starts a_values a_text) rfl ⟨trivial, trivial⟩ ?_
  exact xR_less2 (J10 _ _ _ _ _ _ _ (by first | rfl | omega) hn_text) ⟨rfl, rfl, rfl, rfl, rfl, trivial⟩
