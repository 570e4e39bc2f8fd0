/-! WHAT IS KNOWN AT THE START -/
theorem st_arrOf {s : State} {c : ClassId} {k : Class} {comp : ClassId} {ty : FieldType} (h2 : s.vm.classes[c]? = some k) (h3 : k.kind = .array comp ty) : ArrOfT s c ty := fun N z => ⟨(fun k h => by cases h), k, h2, comp, h3⟩
theorem w_known {s : State} {b : Nat} (hts : ∀ w ∈ lw_tbl, w.before #[Value.ref b] s = true) (hgv : (Jvm.Cond.and given_1 narrow_1).before #[Value.ref b] s = true) : ∃ (dd : va_G) (tc : Nat → ClassId), xK dd tc (fun q => s.heap.size ≤ q) s := by
  have hA : ∀ a : Nat, a < s.heap.size → ¬ (fun q => s.heap.size ≤ q) a := fun a h => Nat.not_le.mpr h
  have hx : ∀ w ∈ xtb, w.before #[Value.ref b] s = true := fun w hw => hts w (List.mem_filter.mp hw).1
  have hg := flat_of_before _ hgv
  have hi : ∀ (i : Nat) (w : Cond), lw_tbl[i]? = some w → w.before #[Value.ref b] s = true := fun i w h => hts w (List.mem_of_getElem? h)
  obtain ⟨c1, i1, k1⟩ := u_known (C := RX1) (T := TX1) (N := 2) (n := 2) hx xin1 (hi 491 _ (by decide +kernel))
  obtain ⟨c2, i2, k2⟩ := u_known (C := RX2) (T := TX2) (N := 9) (n := 9) hx xin2 (hi 557 _ (by decide +kernel))
  obtain ⟨c3, i3, k3⟩ := u_known (C := RX3) (T := TX3) (N := 16) (n := 16) hx xin3 (hi 411 _ (by decide +kernel))
  obtain ⟨c4, i4, k4⟩ := u_known (C := RX4) (T := TX4) (N := 5) (n := 5) hx xin4 (hi 531 _ (by decide +kernel))
  obtain ⟨c5, i5, k5⟩ := u_known (C := RX5) (T := TX5) (N := 4) (n := 4) hx xin5 (hi 505 _ (by decide +kernel))
  obtain ⟨c6, i6, k6⟩ := u_known (C := RX6) (T := TX6) (N := 2) (n := 2) hx xin6 (hi 593 _ (by decide +kernel))
  obtain ⟨c7, i7, k7⟩ := u_known (C := RX7) (T := TX7) (N := 15) (n := 15) hx xin7 (hi 189 _ (by decide +kernel))
  obtain ⟨c8, i8, k8⟩ := u_known (C := RX8) (T := TX8) (N := 14) (n := 14) hx xin8 (hi 183 _ (by decide +kernel))
  obtain ⟨c9, i9, k9⟩ := u_known (C := RX9) (T := TX9) (N := 3) (n := 3) hx xin9 (hi 419 _ (by decide +kernel))
  obtain ⟨c10, i10, k10⟩ := u_known (C := RX10) (T := TX10) (N := 13) (n := 13) hx xin10 (hi 320 _ (by decide +kernel))
  obtain ⟨c11, i11, k11⟩ := u_known (C := RX11) (T := TX11) (N := 16) (n := 16) hx xin11 (hi 175 _ (by decide +kernel))
  obtain ⟨c12, i12, k12⟩ := u_known (C := RX12) (T := TX12) (N := 82) (n := 82) hx xin12 (hi 1473 _ (by decide +kernel))
  have k0 : u_Kn s RX1 TX0 0 c1 i1 := ⟨fun k hk => absurd hk (Nat.not_lt_zero k), k1.2⟩
  obtain ⟨ai, ki, qi, fi1, fi2, fi3⟩ := Cond.arrayClass_spec (hi 270 (.arrayClass .int) (by decide +kernel))
  obtain ⟨al, kl, ql, fl1, fl2, fl3⟩ := Cond.arrayClass_spec (hi 409 (.arrayClass .long) (by decide +kernel))
  obtain ⟨az, kz, qz, fz1, fz2, fz3⟩ := Cond.arrayClass_spec (hi 1725 (.arrayClass .boolean) (by decide +kernel))
  obtain ⟨py, ay, ky, fy1, -, fy3, fy4, fy5⟩ := Cond.arrayOver_spec (hi 511 (.arrayOver (.object RX10)) (by decide +kernel))
  obtain ⟨pd, ad, kd, fd1, -, fd3, fd4, fd5⟩ := Cond.arrayOver_spec (hi 513 (.arrayOver (.object RX1)) (by decide +kernel))
  obtain ⟨qK, qV, hS, hT⟩ := vk_Sof (N := 1) (tm := fun _ => vTm) (len := [144]) (byt := [xSb]) (A := fun q => s.heap.size ≤ q) (args := #[Value.ref b]) (s := s) (fun i hi => by rw [show i = 0 by omega]; decide) (fun i hi => hg _ (by decide +kernel)) (fun i hi => hg _ (by decide +kernel)) (fun i hi => hg _ (by decide +kernel)) (fun i hi => by rw [show i = 0 by omega]; exact hg _ (by decide +kernel)) (fun i hi j hj => by
    have e : i = 0 := by omega
    subst e
    have e2 : ([xSb] : List (List Int32)).getD 0 [] = xSb := List.getD_cons_zero
    rw [e2]
    exact hg _ (st_elems j hj)) (fun i j hi hj e => absurd (show i = j by omega) e) hA
  have hS2 : vk_S 1 [144] [xSb] (fun _ => qK 0) (fun _ => qV 0) (fun q => s.heap.size ≤ q) s s.heap := ⟨fun i hi => by
    have e : i = 0 := by omega
    subst e
    exact hS.1 0 hi, fun i j hi hj _ => by omega⟩
  refine ⟨(fun k => match k with | 0 => c1 | 1 => c1 | 2 => c2 | 3 => c3 | 4 => c4 | 5 => c5 | 6 => c6 | 7 => c7 | 8 => c8 | 9 => c9 | 10 => c10 | 11 => c11 | _ => c12, fun k => match k with | 0 => i1 | 1 => i1 | 2 => i2 | 3 => i3 | 4 => i4 | 5 => i5 | 6 => i6 | 7 => i7 | 8 => i8 | 9 => i9 | 10 => i10 | 11 => i11 | _ => i12), fun k => match k with | 0 => ai | 1 => al | 2 => az | 3 => ay | _ => ad, ⟨⟨?_, ?_⟩, ?_, ⟨qK 0, qV 0, hS2, vk_R.of (hi 726 _ (by decide +kernel)) (hT 0 (by decide))⟩, va_Zof (hi 736 _ (by decide +kernel)) (hi 166 _ (by decide +kernel)) (va_eqi (hg _ (by decide +kernel))) hA, ?_⟩⟩
  · intro k q hq
    match k, hq with
    | 0, hq => cases hq; exact k0
    | 1, hq => cases hq; exact k1
    | 2, hq => cases hq; exact k2
    | 3, hq => cases hq; exact k3
    | 4, hq => cases hq; exact k4
    | 5, hq => cases hq; exact k5
    | 6, hq => cases hq; exact k6
    | 7, hq => cases hq; exact k7
    | 8, hq => cases hq; exact k8
    | 9, hq => cases hq; exact k9
    | 10, hq => cases hq; exact k10
    | 11, hq => cases hq; exact k11
    | 12, hq => cases hq; exact k12
    | n + 13, hq => simp [xcl] at hq
  · intro k q hq
    match k, hq with
    | 0, hq => cases hq; exact ⟨st_arrOf fi2 fi3, fi1⟩
    | 1, hq => cases hq; exact ⟨st_arrOf fl2 fl3, fl1⟩
    | 2, hq => cases hq; exact ⟨st_arrOf fz2 fz3, fz1⟩
    | 3, hq => cases hq; exact ⟨st_arrOf fy3 fy4, ky, py, fy3, fy4, fy1, fy5⟩
    | 4, hq => cases hq; exact ⟨st_arrOf fd3 fd4, kd, pd, fd3, fd4, fd1, fd5⟩
    | n + 5, hq => simp [xtys] at hq
  · intro w hw hn
    cases w <;> first | (exact va_Nw.of rfl (hts _ hw)) | (exfalso; revert hn; simp [xnest])
  · rcases va_Zqof (C := "jdk/internal/util/Preconditions") (n := "SIOOBE_FORMATTER") (d := "Ljava/util/function/BiFunction;") (hi 752 _ (by decide +kernel)) (hi 168 _ (by decide +kernel)) (hg _ (by decide +kernel)) hA with z | ⟨t, z⟩
    · exact ⟨.null, Or.inl rfl, z⟩
    · exact ⟨.ref t, Or.inr ⟨t, rfl⟩, z⟩
theorem w_over {s : State} {b : Nat} (hts : ∀ w ∈ lw_tbl, w.before #[Value.ref b] s = true) : va_AO RX10 s ∧ va_AO RX1 s := ⟨va_AO.of (hts (.arrayOver (.object RX10)) (List.mem_of_getElem? (i := 511) (by decide +kernel))), va_AO.of (hts (.arrayOver (.object RX1)) (List.mem_of_getElem? (i := 513) (by decide +kernel)))⟩
