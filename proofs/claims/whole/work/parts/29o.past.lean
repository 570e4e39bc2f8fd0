def pg_X5_init : xPg := [(0, .aload_n 0, .null), (1, .invokespecial 1, .null), (4, .aload_n 0, .null), (5, .bipush 20, .int 20), (7, .anewarray 9, .null), (10, .putfield 11, .retAddr 502), (13, .aload_n 0, .null), (14, .bipush 20, .int 20), (16, .anewarray 15, .null), (19, .putfield 17, .retAddr 503), (22, .iconst 0, .int 0), (23, .istore_n 1, .null), (24, .iload_n 1, .null), (25, .bipush 20, .int 20), (27, .if_icmp .ge 35, .retAddr 62), (30, .aload_n 0, .null), (31, .getfield 11, .retAddr 502), (34, .iload_n 1, .null), (35, .new 9, .null), (38, .dup, .null), (39, .invokespecial 21, .null), (42, .aastore, .null), (43, .aload_n 0, .null), (44, .getfield 17, .retAddr 503), (47, .iload_n 1, .null), (48, .new 15, .null), (51, .dup, .null), (52, .invokespecial 22, .null), (55, .aastore, .null), (56, .iinc 1 1, .int 1), (59, .goto (-35), .retAddr 24), (62, .return_, .null)]
theorem pq_X5_init : xPq RX5 cX5_init tb_X5 pg_X5_init := ⟨tab_X5, xPok_of (by decide +kernel)⟩
theorem cy_X5_init : xCy yX5_init cX5_init 2 none := ⟨xtb_in (i := 508) (by decide +kernel) rfl, xtb_in (i := 161) (by decide +kernel) rfl, by decide +kernel, by decide +kernel⟩
theorem ar_X5_init : xar yX5_init 0 := by unfold xar; decide +kernel
theorem ii_X5_init : yX5_init.name = "<init>" ∧ Cond.instanceMethod yX5_init ∈ xtb := ⟨rfl, xtb_in (i := 507) (by decide +kernel) rfl⟩
/-- a new yard, a new diary, a slot of both, i slots -/
def wY : xC := [(1, .inl (0, 40, .inl (fun _ => 0))), (2, .inl (0, 40, .inl (fun _ => 0))), (3, .inl (0, 40, .inl (fun _ => 0))), (4, .inl (0, 40, .inl (fun _ => 0))), (5, .inl (0, 40, .inl (fun _ => 0))), (6, .inl (0, 160, .inl (mJ7_fill_53178 160 (-1) (fun _ => 0)))), (7, .inl (0, 8, .inl (mJ7_fill_53178 8 (-1) (fun _ => 0)))), (8, .inl (0, 42, .inl (fun _ => 0))), (9, .inl (1, 40, .inr (.inl (fun _ => 0))))]
def wY0 : xE := .inr (10, [.ref 1, .ref 2, .ref 3, .ref 4, .ref 5, .ref 6, .ref 7, .ref 8, .ref 9, .long 0, .long 0, .int 0, .int 0])
def wD : xC := [(1, .inl (0, 120, .inl (fun _ => 0)))]
def wD0 : xE := .inr (1, [.int 0, .ref 1])
def pS (n : Nat) : xC := ((n, xre (nph (n + 1) n) wY0) :: wY.map (xrn (nph (n + 1) n))) ++ ((n + 10, xre (nph (n + 11) (n + 10)) wD0) :: wD.map (xrn (nph (n + 11) (n + 10))))
def pW : Nat → xC
  | 0 => []
  | i + 1 => pW i ++ pS (12 * i + 3)
def pFc (c : Nat) : Nat → Nat → Option Nat
  | 0 => fun _ => none
  | i + 1 => va_up (pFc c i) i (some (12 * i + c))
def pC (f g : Nat → Option Nat) (W : xC) : xC := (0, .inr (5, [.int 0, .int 0, .ref 1, .ref 2])) :: (1, .inl (3, 20, .inr (.inr (.inr (.inr f))))) :: (2, .inl (4, 20, .inr (.inr (.inr (.inr g))))) :: W
theorem nph_lt {n b k t m : Nat} (hb : b < m) (hk : k < t) (ht : n + t ≤ m + 1) : nph n b k < m := by
  unfold nph
  cases e : Nat.ble 1 k with
  | true => have := Nat.le_of_ble_eq_true e; show k - 1 + n < m; omega
  | false => exact hb
theorem wY_st : nSt 10 ((0, wY0) :: wY) := nSt_b rfl
theorem wD_st : nSt 2 ((0, wD0) :: wD) := nSt_b rfl
theorem pS_eq (n : Nat) : pS n = ((0, wY0) :: wY).map (xrn (nph (n + 1) n)) ++ ((0, wD0) :: wD).map (xrn (nph (n + 11) (n + 10))) := rfl
theorem pS_st (n : Nat) : nSt (n + 12) (pS n) := by
  rw [pS_eq]
  exact nSt_app (nSt_map wY_st (fun k hk => nph_lt (t := 10) (by omega) hk (by omega))) (nSt_map wD_st (fun k hk => nph_lt (t := 2) (by omega) hk (by omega)))
theorem pW_st : ∀ i, nSt (12 * i + 3) (pW i)
  | 0 => nSt_nil
  | i + 1 => nSt_app (nSt_up (pW_st i) (by omega)) (nSt_up (pS_st (12 * i + 3)) (by omega))
theorem pFc_lt (c : Nat) : ∀ i j q, pFc c i j = some q → q + 12 ≤ 12 * i + c
  | 0, j, q, h => by cases h
  | i + 1, j, q, h => by
    unfold pFc va_up at h
    by_cases e : j = i
    · rw [if_pos e] at h
      cases h
      omega
    · rw [if_neg e] at h
      have := pFc_lt c i j q h
      omega
theorem pC_st {n : Nat} {f g : Nat → Option Nat} {W : xC} (hn : 3 ≤ n) (hf : ∀ j q, f j = some q → q < n) (hg : ∀ j q, g j = some q → q < n) (hW : nSt n W) : nSt n (pC f g W) := by
  have b : ∀ k, k < 3 → Nat.blt k n = true := fun k hk => Nat.ble_eq_true_of_le (by omega)
  refine nSt_cons (b 0 (by omega)) ?_ (nSt_ref (b 1 (by omega)) hf (nSt_ref (b 2 (by omega)) hg hW))
  show List.all [Value.int 0, .int 0, .ref 1, .ref 2] (nVb n) = true
  have e1 : nVb n (.ref 1) = true := b 1 (by omega)
  have e2 : nVb n (.ref 2) = true := b 2 (by omega)
  simp only [List.all_cons, List.all_nil, e1, e2, Bool.and_true]
  rfl
theorem lset_end {α : Type} (C : List α) (x y : α) : (C ++ [x]).set C.length y = C ++ [y] := by
  rw [List.set_append]
  simp
theorem lget_end {α : Type} (C : List α) (x : α) : (C ++ [x])[C.length]? = some x := by simp
theorem nLb_2 {n : Nat} (hn : 0 < n) (x : Int32) : nLb n [some (.ref 0), some (.int x)] = true := by
  have e : nVb n (.ref 0) = true := Nat.ble_eq_true_of_le hn
  show List.all [some (Value.ref 0), some (.int x)] _ = true
  simp only [List.all_cons, List.all_nil, Bool.and_true, e]
  rfl
theorem nVb_r {n k : Nat} (h : k < n) : nVb n (.ref k) = true := Nat.ble_eq_true_of_le h
theorem lget_app {α : Type} {C D : List α} {q : Nat} (hq : q = C.length) (x : α) (h : D[0]? = some x) : (C ++ D)[q]? = some x := by
  rw [hq, List.getElem?_append_right (Nat.le_refl _), Nat.sub_self]
  exact h
theorem pS_len (n : Nat) : (pS n).length = 12 := rfl
theorem pW_len : ∀ i, (pW i).length = 12 * i
  | 0 => rfl
  | i + 1 => by
    show (pW i ++ pS (12 * i + 3)).length = _
    rw [List.length_append, pW_len i, pS_len]
    omega
theorem nVb_s {n r : Nat} (x : Int32) (h : r < n) : [Value.int x, .ref r].all (nVb n) = true := by
  simp only [List.all_cons, List.all_nil, Bool.and_true, nVb_r h]
  rfl
theorem nVb_t {n q r : Nat} (x : Int32) (h : r < n) (hq : q < n) : [Value.ref q, .int x, .ref r].all (nVb n) = true := by
  simp only [List.all_cons, List.all_nil, Bool.and_true, nVb_r h, nVb_r hq]
  rfl
theorem lget_mid {α : Type} (C D : List α) (x : α) : ((C ++ [x]) ++ D)[C.length]? = some x := by simp
section OP5
variable {l : Launch} {X : nCtx}
set_option maxRecDepth 100000 in
set_option maxHeartbeats 4000000 in
theorem oX5_step (K : oY l cX5_init 2 RX5 none (nrm 2 242 11740) X) (ha1 : va_AO RX10 X.1.2.2.2) (ha2 : va_AO RX1 X.1.2.2.2) {i : Nat} (hi : i < 20) (kk : nR X (2 + 12 * (i + 1)) (40 + 585 * (i + 1)) 24 [some (.ref 0), some (.int (nI (i + 1)))] [] (pC (pFc 3 (i + 1)) (pFc 13 (i + 1)) (pW (i + 1)))) : nR X (2 + 12 * i) (40 + 585 * i) 30 [some (.ref 0), some (.int (nI i))] [] (pC (pFc 3 i) (pFc 13 i) (pW i)) := by
  have f1 : ∀ c j q, pFc c i j = some q → q + 12 ≤ 12 * i + c := fun c j q h => pFc_lt c i j q h
  have f2 : ∀ c j q, pFc c (i + 1) j = some q → q ≤ 12 * i + c := fun c j q h => by have := pFc_lt c (i + 1) j q h; omega
  have ci : (nI i).toNatClampNeg = i := nI_clamp (by omega)
  have hin : vp_in (nI i) 20 := pk_in i 20 (by omega)
  have s0 : nSt (12 * i + 3) (pC (pFc 3 i) (pFc 13 i) (pW i)) := pC_st (by omega) (fun j q h => by have := f1 3 j q h; omega) (fun j q h => by have := f1 13 j q h; omega) (pW_st i)
  have s1 : nSt (12 * i + 3 + 1) (pC (pFc 3 i) (pFc 13 i) (pW i) ++ [(12 * i + 3, .inr (10, [.null, .null, .null, .null, .null, .null, .null, .null, .null, .long 0, .long 0, .int 0, .int 0]))]) := nSt_app (nSt_up s0 (by omega)) (nSt_cons (Nat.ble_eq_true_of_le (by omega)) rfl nSt_nil)
  refine o_go K pq_X5_init 3 (pc' := 35) (L' := [some (.ref 0), some (.int (nI i))]) (S' := [.int (nI i), .ref 1]) (C' := pC (pFc 3 i) (pFc 13 i) (pW i)) rfl trivial ?_
  refine o_new K pq_X5_init rfl (ci := 10) (N := 13) ⟨_, rfl, rfl, xtb_in (i := 510) (by decide +kernel) rfl, xtb_in (i := 320) (by decide +kernel) rfl, xtb_in (i := 156) (by decide +kernel) rfl⟩ (12 * i + 3) (by omega) (fs := [.null, .null, .null, .null, .null, .null, .null, .null, .null, .long 0, .long 0, .int 0, .int 0]) (by decide +kernel) rfl s0 (nLb_2 (by omega) _) (nVb_s _ (by omega)) (show 2 + 12 * i + 1 ≤ 242 by omega) (show 40 + 585 * i + 13 ≤ 11740 by omega) ?_
  refine o_go K pq_X5_init 1 (pc' := 39) (L' := [some (.ref 0), some (.int (nI i))]) (S' := [.ref (12 * i + 3), .ref (12 * i + 3), .int (nI i), .ref 1]) (C' := pC (pFc 3 i) (pFc 13 i) (pW i) ++ [(12 * i + 3, .inr (10, [.null, .null, .null, .null, .null, .null, .null, .null, .null, .long 0, .long 0, .int 0, .int 0]))]) rfl trivial ?_
  refine o_con K ha1 ha2 pq_X5_init rfl lk_X5_21 cy_X10_init ii_X10_init ar_X10_init (oX10_init l) (e1 := wY0) (Cr := wY) (Nat.le_of_ble_eq_true rfl) (Nat.le_of_ble_eq_true rfl) (show 2 + 12 * i + 1 + 9 ≤ 242 by omega) (show 40 + 585 * i + 13 + 450 ≤ 11740 by omega) (12 * i + 3 + 1) (pC (pFc 3 i) (pFc 13 i) (pW i)).length (12 * i + 3) (by omega) (by omega) (lget_end _ _) rfl s1 (nLb_2 (by omega) _) (nVb_t _ (by omega) (by omega)) (Nat.le_of_ble_eq_true rfl) rfl (C2 := (pC (pFc 3 i) (pFc 13 i) (pW i) ++ [(12 * i + 3, xre (nph (12 * i + 3 + 1) (12 * i + 3)) wY0)]) ++ wY.map (xrn (nph (12 * i + 3 + 1) (12 * i + 3)))) (by rw [lset_end]) ?_
  refine o_aast K pq_X5_init rfl 1 (pC (pFc 3 i) (pFc 13 i) (pW i)).length (Or.inl ⟨rfl, rfl⟩) (f := pFc 3 i) rfl (lget_mid _ _ _) hin (C2 := (pC (pFc 3 (i + 1)) (pFc 13 i) (pW i) ++ [(12 * i + 3, xre (nph (12 * i + 3 + 1) (12 * i + 3)) wY0)]) ++ wY.map (xrn (nph (12 * i + 3 + 1) (12 * i + 3)))) (by rw [ci]; rfl) ?_
  have s2 : nSt (12 * i + 3 + 10) ((pC (pFc 3 (i + 1)) (pFc 13 i) (pW i) ++ [(12 * i + 3, xre (nph (12 * i + 3 + 1) (12 * i + 3)) wY0)]) ++ wY.map (xrn (nph (12 * i + 3 + 1) (12 * i + 3)))) := by
    rw [List.append_assoc]
    refine nSt_app (pC_st (by omega) (fun j q h => by have := f2 3 j q h; omega) (fun j q h => by have := f1 13 j q h; omega) (nSt_up (pW_st i) (by omega))) ?_
    exact nSt_map (φ := nph (12 * i + 3 + 1) (12 * i + 3)) wY_st (fun k hk => nph_lt (t := 10) (by omega) hk (by omega))
  have s3 : nSt (12 * i + 3 + 11) (((pC (pFc 3 (i + 1)) (pFc 13 i) (pW i) ++ [(12 * i + 3, xre (nph (12 * i + 3 + 1) (12 * i + 3)) wY0)]) ++ wY.map (xrn (nph (12 * i + 3 + 1) (12 * i + 3)))) ++ [(12 * i + 3 + 10, .inr (1, [.int 0, .null]))]) := nSt_app (nSt_up s2 (by omega)) (nSt_cons (Nat.ble_eq_true_of_le (by omega)) rfl nSt_nil)
  refine o_go K pq_X5_init 3 (pc' := 48) (L' := [some (.ref 0), some (.int (nI i))]) (S' := [.int (nI i), .ref 2]) (C' := (pC (pFc 3 (i + 1)) (pFc 13 i) (pW i) ++ [(12 * i + 3, xre (nph (12 * i + 3 + 1) (12 * i + 3)) wY0)]) ++ wY.map (xrn (nph (12 * i + 3 + 1) (12 * i + 3)))) rfl trivial ?_
  refine o_new K pq_X5_init rfl (ci := 1) (N := 2) ⟨_, rfl, rfl, xtb_in (i := 512) (by decide +kernel) rfl, xtb_in (i := 491) (by decide +kernel) rfl, xtb_in (i := 160) (by decide +kernel) rfl⟩ (12 * i + 3 + 10) (by omega) (fs := [.int 0, .null]) (by decide +kernel) rfl s2 (nLb_2 (by omega) _) (nVb_s _ (by omega)) (show 2 + 12 * i + 1 + 9 + 1 ≤ 242 by omega) (show 40 + 585 * i + 13 + 450 + 2 ≤ 11740 by omega) ?_
  refine o_go K pq_X5_init 1 (pc' := 52) (L' := [some (.ref 0), some (.int (nI i))]) (S' := [.ref (12 * i + 3 + 10), .ref (12 * i + 3 + 10), .int (nI i), .ref 2]) (C' := ((pC (pFc 3 (i + 1)) (pFc 13 i) (pW i) ++ [(12 * i + 3, xre (nph (12 * i + 3 + 1) (12 * i + 3)) wY0)]) ++ wY.map (xrn (nph (12 * i + 3 + 1) (12 * i + 3)))) ++ [(12 * i + 3 + 10, .inr (1, [.int 0, .null]))]) rfl trivial ?_
  refine o_con K ha1 ha2 pq_X5_init rfl lk_X5_22 cy_X1_init ii_X1_init ar_X1_init (oX1_init l) (e1 := wD0) (Cr := wD) (Nat.le_of_ble_eq_true rfl) (Nat.le_of_ble_eq_true rfl) (show 2 + 12 * i + 1 + 9 + 1 + 1 ≤ 242 by omega) (show 40 + 585 * i + 13 + 450 + 2 + 120 ≤ 11740 by omega) (12 * i + 3 + 11) ((pC (pFc 3 (i + 1)) (pFc 13 i) (pW i) ++ [(12 * i + 3, xre (nph (12 * i + 3 + 1) (12 * i + 3)) wY0)]) ++ wY.map (xrn (nph (12 * i + 3 + 1) (12 * i + 3)))).length (12 * i + 3 + 10) (by omega) (by omega) (lget_end _ _) rfl s3 (nLb_2 (by omega) _) (nVb_t _ (by omega) (by omega)) (Nat.le_of_ble_eq_true rfl) rfl (C2 := (((pC (pFc 3 (i + 1)) (pFc 13 i) (pW i) ++ [(12 * i + 3, xre (nph (12 * i + 3 + 1) (12 * i + 3)) wY0)]) ++ wY.map (xrn (nph (12 * i + 3 + 1) (12 * i + 3)))) ++ [(12 * i + 3 + 10, xre (nph (12 * i + 3 + 11) (12 * i + 3 + 10)) wD0)]) ++ wD.map (xrn (nph (12 * i + 3 + 11) (12 * i + 3 + 10)))) (by rw [lset_end]) ?_
  refine o_aast K pq_X5_init rfl 2 ((pC (pFc 3 (i + 1)) (pFc 13 i) (pW i) ++ [(12 * i + 3, xre (nph (12 * i + 3 + 1) (12 * i + 3)) wY0)]) ++ wY.map (xrn (nph (12 * i + 3 + 1) (12 * i + 3)))).length (Or.inr ⟨rfl, rfl⟩) (f := pFc 13 i) rfl (lget_mid _ _ _) hin (C2 := (((pC (pFc 3 (i + 1)) (pFc 13 (i + 1)) (pW i) ++ [(12 * i + 3, xre (nph (12 * i + 3 + 1) (12 * i + 3)) wY0)]) ++ wY.map (xrn (nph (12 * i + 3 + 1) (12 * i + 3)))) ++ [(12 * i + 3 + 10, xre (nph (12 * i + 3 + 11) (12 * i + 3 + 10)) wD0)]) ++ wD.map (xrn (nph (12 * i + 3 + 11) (12 * i + 3 + 10)))) (by rw [ci]; rfl) ?_
  refine o_go K pq_X5_init 2 (pc' := 24) (L' := [some (.ref 0), some (.int (nI i + 1))]) (S' := []) (C' := (((pC (pFc 3 (i + 1)) (pFc 13 (i + 1)) (pW i) ++ [(12 * i + 3, xre (nph (12 * i + 3 + 1) (12 * i + 3)) wY0)]) ++ wY.map (xrn (nph (12 * i + 3 + 1) (12 * i + 3)))) ++ [(12 * i + 3 + 10, xre (nph (12 * i + 3 + 11) (12 * i + 3 + 10)) wD0)]) ++ wD.map (xrn (nph (12 * i + 3 + 11) (12 * i + 3 + 10)))) rfl trivial ?_
  have ew : (((pC (pFc 3 (i + 1)) (pFc 13 (i + 1)) (pW i) ++ [(12 * i + 3, xre (nph (12 * i + 3 + 1) (12 * i + 3)) wY0)]) ++ wY.map (xrn (nph (12 * i + 3 + 1) (12 * i + 3)))) ++ [(12 * i + 3 + 10, xre (nph (12 * i + 3 + 11) (12 * i + 3 + 10)) wD0)]) ++ wD.map (xrn (nph (12 * i + 3 + 11) (12 * i + 3 + 10))) = pC (pFc 3 (i + 1)) (pFc 13 (i + 1)) (pW (i + 1)) := by
    have e1 : pC (pFc 3 (i + 1)) (pFc 13 (i + 1)) (pW (i + 1)) = pC (pFc 3 (i + 1)) (pFc 13 (i + 1)) (pW i) ++ pS (12 * i + 3) := rfl
    rw [e1]
    unfold pS
    simp only [List.append_assoc, List.singleton_append, List.cons_append, List.nil_append]
  rw [ew, nI_1, show 2 + 12 * i + 1 + 9 + 1 + 1 = 2 + 12 * (i + 1) by omega, show 40 + 585 * i + 13 + 450 + 2 + 120 = 40 + 585 * (i + 1) by omega]
  exact kk
theorem oX5_loop (K : oY l cX5_init 2 RX5 none (nrm 2 242 11740) X) (ha1 : va_AO RX10 X.1.2.2.2) (ha2 : va_AO RX1 X.1.2.2.2) (kk : nR X 242 11740 62 [some (.ref 0), some (.int (nI 20))] [] (pC (pFc 3 20) (pFc 13 20) (pW 20))) : ∀ m i, i + m = 20 → nR X (2 + 12 * i) (40 + 585 * i) 24 [some (.ref 0), some (.int (nI i))] [] (pC (pFc 3 i) (pFc 13 i) (pW i)) := by
  intro m
  induction m with
  | zero =>
    intro i hi
    have e : i = 20 := by omega
    subst e
    refine o_go K pq_X5_init 2 (pc' := 27) (L' := [some (.ref 0), some (.int (nI 20))]) (S' := [.int 20, .int (nI 20)]) (C' := pC (pFc 3 20) (pFc 13 20) (pW 20)) rfl trivial ?_
    exact o_ge K pq_X5_init rfl (fun _ => kk) (fun h => absurd h (by decide))
  | succ m ih =>
    intro i hi
    refine o_go K pq_X5_init 2 (pc' := 27) (L' := [some (.ref 0), some (.int (nI i))]) (S' := [.int 20, .int (nI i)]) (C' := pC (pFc 3 i) (pFc 13 i) (pW i)) rfl trivial ?_
    exact o_ge K pq_X5_init rfl (fun h => absurd (show nI i < nI 20 from nI_lt (by omega) (by decide)) h) (fun _ => oX5_step K ha1 ha2 (by omega) (ih (i + 1) (by omega)))
end OP5
set_option maxRecDepth 100000 in
set_option maxHeartbeats 4000000 in
theorem oX5_init (l : Launch) : xCon l 2 242 11740 yX5_init cX5_init 2 5 [.int 0, .int 0, .null, .null] (pC (pFc 3 20) (pFc 13 20) (pW 20)) := by
  refine oCon_of cy_X5_init rfl (by decide) (fun X K ha1 ha2 hnm hQ => ?_)
  refine o_go K pq_X5_init 1 (pc' := 1) (L' := [some (.ref 0), none]) (S' := [.ref 0]) (C' := [(0, .inr (5, [.int 0, .int 0, .null, .null]))]) rfl trivial ?_
  refine o_obj K pq_X5_init rfl ⟨xtb_in (i := 509) (by decide +kernel) rfl, xtb_in (i := 180) (by decide +kernel) rfl, xtb_in (i := 181) (by decide +kernel) rfl⟩ (Nat.le_of_ble_eq_true rfl) (Nat.le_of_ble_eq_true rfl) (Nat.le_of_ble_eq_true rfl) ?_
  refine o_go K pq_X5_init 2 (pc' := 7) (L' := [some (.ref 0), none]) (S' := [.int 20, .ref 0]) (C' := [(0, .inr (5, [.int 0, .int 0, .null, .null]))]) rfl trivial ?_
  refine o_anew K pq_X5_init rfl 3 (Or.inl ⟨rfl, rfl⟩) (xtb_in (i := 510) (by decide +kernel) rfl) ha1 1 (by decide) 20 (by decide) rfl (by decide) (nSt_b rfl) rfl rfl (Nat.le_of_ble_eq_true rfl) (Nat.le_of_ble_eq_true rfl) ?_
  refine o_putF K hnm pq_X5_init rfl 0 5 rfl rfl rfl (by decide +kernel) ⟨_, rfl, trivial⟩ (C2 := [(0, .inr (5, [.int 0, .int 0, .ref 1, .null])), (1, .inl (3, 20, .inr (.inr (.inr (.inr (fun _ => none))))))]) rfl ?_
  refine o_go K pq_X5_init 2 (pc' := 16) (L' := [some (.ref 0), none]) (S' := [.int 20, .ref 0]) (C' := [(0, .inr (5, [.int 0, .int 0, .ref 1, .null])), (1, .inl (3, 20, .inr (.inr (.inr (.inr (fun _ => none))))))]) rfl trivial ?_
  refine o_anew K pq_X5_init rfl 4 (Or.inr ⟨rfl, rfl⟩) (xtb_in (i := 512) (by decide +kernel) rfl) ha2 2 (by decide) 20 (by decide) rfl (by decide) (nSt_cons rfl rfl (nSt_ref rfl (fun j q h => by cases h) nSt_nil)) rfl rfl (Nat.le_of_ble_eq_true rfl) (Nat.le_of_ble_eq_true rfl) ?_
  refine o_putF K hnm pq_X5_init rfl 0 5 rfl rfl rfl (by decide +kernel) ⟨_, rfl, trivial⟩ (C2 := [(0, .inr (5, [.int 0, .int 0, .ref 1, .ref 2])), (1, .inl (3, 20, .inr (.inr (.inr (.inr (fun _ => none)))))), (2, .inl (4, 20, .inr (.inr (.inr (.inr (fun _ => none))))))]) rfl ?_
  refine o_go K pq_X5_init 2 (pc' := 24) (L' := [some (.ref 0), some (.int 0)]) (S' := []) (C' := [(0, .inr (5, [.int 0, .int 0, .ref 1, .ref 2])), (1, .inl (3, 20, .inr (.inr (.inr (.inr (fun _ => none)))))), (2, .inl (4, 20, .inr (.inr (.inr (.inr (fun _ => none))))))]) rfl trivial ?_
  exact oX5_loop K ha1 ha2 (o_ret K pq_X5_init rfl rfl rfl hQ) 20 0 rfl
