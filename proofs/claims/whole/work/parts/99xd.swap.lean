/-! THE PLANS HAVE CHANGED PLACES -/
theorem sel_mem {C D : xC} {is : List Nat} {g : Nat × xE → Nat × xE} (h : is.map (fun i => C[i]?) = D.map (fun q => some (g q))) : ∀ x ∈ D, g x ∈ C := fun x hx => by
  have k : some (g x) ∈ is.map (fun i => C[i]?) := by
    rw [h]
    exact List.mem_map_of_mem (f := fun q => some (g q)) hx
  obtain ⟨i, -, hi⟩ := List.mem_map.mp k
  exact List.mem_of_getElem? hi
theorem sgS_hi {k : Nat} (h : 126 ≤ k) : sgS k = k := by
  unfold sgS
  rw [cond_f (ble_no (by omega)), cond_f (ble_no (by omega)), cond_f (ble_no (by omega))]
theorem lbC_S : (lbC.map sgS).Pairwise (· ≠ ·) := by decide
theorem lbC_Sr : ∀ a ∈ lbC.map sgS, 100 ≤ a ∧ a < 180 := by decide
theorem lbR_S : lbR.map sgS = lbR := by decide
theorem fyc_S : (fun j => (fyc j).map sgS) = fyc := funext fun j => by
  by_cases h : j < 20
  · rw [fyc_in h]
    exact congrArg some (sgS_hi (by omega))
  · rw [show fyc j = none from if_neg h]
    rfl
theorem fdc_S : (fun j => (fdc j).map sgS) = fdc := funext fun j => by
  by_cases h : j < 20
  · rw [fdc_in h]
    exact congrArg some (sgS_hi (by omega))
  · rw [show fdc j = none from if_neg h]
    rfl
section OSWP
variable {I I2 : Nat → Int32} {J J2 : Nat → Int64} {B B2 : Nat → Bool} {A A2 : Nat → Nat → Int32} {M M2 : Nat → Nat → Int64} {Q : Nat → QT}
theorem wQ_S : ∀ i, i ≤ 20 → ((wQ Q i).map (fun x => sgS x.1)).Pairwise (· ≠ ·)
  | 0, _ => List.Pairwise.nil
  | i + 1, hi => by
    show ((wQ Q i ++ wS (1000 + 20 * i) (1000 + 20 * i + 10) (Q i)).map _).Pairwise _
    rw [List.map_append]
    refine List.pairwise_append.mpr ⟨wQ_S i (by omega), pw_lab (y' := 1000 + 20 * i) (d' := 1000 + 20 * i + 10) _ (fun j hj => sgS_hi (by omega)) (fun j hj => sgS_hi (by omega)) (by omega), fun a ha b hb => ?_⟩
    obtain ⟨x, hx, rfl⟩ := List.mem_map.mp ha
    obtain ⟨y, hy, rfl⟩ := List.mem_map.mp hb
    obtain ⟨p, hp, hx⟩ := wQ_in Q hx
    have r1 := wS_rng hx
    have r2 := wS_rng hy
    rw [sgS_hi (by omega), sgS_hi (by omega)]
    omega
set_option maxRecDepth 100000 in
theorem wR_S : (wR I J B A M).map (xrn sgS) = wR I J B A M := by
  unfold wR
  simp only [List.map_cons, List.map_nil, xrn_mk]
  rfl
theorem o_swap {X : nCtx} {k z pc : Nat} {n : Int32} {x : Int32} {is : List Nat} {Ir : Nat → Int32} {Jr : Nat → Int64} {Br : Nat → Bool} {Ar : Nat → Nat → Int32} {Mr : Nat → Nat → Int64} (hsel : ∀ fy fd : Nat → Option Nat, is.map (fun i => (wCs (fun j => (fy j).map sgS) (fun j => (fd j).map sgS) I J B A M)[i]?) = (wC fy fd I2 J2 B2 A2 M2).map (fun q => some (xrn sgS q))) (kk : nR X k z pc [some (.ref 0), some (.ref 100), some (.ref 200), some (.int n)] [.int x] (wC fyc fdc I2 J2 B2 A2 M2 ++ (wR Ir Jr Br Ar Mr ++ wQ Q 20))) : nR X k z pc [some (.ref 0), some (.ref 100), some (.ref 200), some (.int n)] [.int x] (wCs fyc fdc I J B A M ++ (wR Ir Jr Br Ar Mr ++ wQ Q 20)) := by
  refine o_perm2 sgS (fun y hy => ?_) ?_ rfl rfl low_P rfl kk
  · rcases List.mem_append.mp hy with h | h
    · have k := sel_mem (hsel fyc fdc) _ h
      rw [fyc_S, fdc_S] at k
      exact List.mem_append_left _ k
    · rcases List.mem_append.mp h with h | h
      · refine List.mem_append_right _ (List.mem_append_left _ ?_)
        exact mem_of_map wR_S h
      · refine List.mem_append_right _ (List.mem_append_right _ ?_)
        obtain ⟨p, hp, h⟩ := wQ_in _ h
        exact wQ_mem Q hp _ (mem_of_map (wS_map _ (fun j hj => sgS_hi (by omega)) (fun j hj => sgS_hi (by omega))) h)
  · show ((wC fyc fdc I2 J2 B2 A2 M2 ++ (wR Ir Jr Br Ar Mr ++ wQ Q 20)).map (fun x => sgS x.1)).Pairwise _
    rw [List.map_append, List.map_append, wC_lab, wR_lab, lbR_S]
    have dm : ∀ b ∈ (wQ Q 20).map (fun x => sgS x.1), 1000 ≤ b := fun b hb => by
      obtain ⟨x, hx, rfl⟩ := List.mem_map.mp hb
      obtain ⟨p, hp, hx⟩ := wQ_in Q hx
      have r := wS_rng hx
      rw [sgS_hi (by omega)]
      omega
    refine List.pairwise_append.mpr ⟨lbC_S, List.pairwise_append.mpr ⟨lb_pw.2, wQ_S 20 (Nat.le_refl _), fun a ha b hb => ?_⟩, fun a ha b hb => ?_⟩
    · have := lb_rng.2 a ha
      have := dm b hb
      omega
    · have := lbC_Sr a ha
      rcases List.mem_append.mp hb with hb | hb
      · have := lb_rng.2 b hb
        omega
      · have := dm b hb
        omega
end OSWP
