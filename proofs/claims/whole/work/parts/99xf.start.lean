/-! THE START: both are made -/
def w11a (l r : Nat → Int32) : xC := [(0, .inr (11, [.ref 1, .int 0, .ref 2, .ref 16, .ref 26, .ref 36, .ref 46, .ref 62, .ref 64, .ref 307, .ref 310, .ref 315, .ref 317, .ref 318, .int 1, .int 0])), (1, .inl (0, 1600, .inl (fun _ => 0))), (2, .inr (8, [.ref 3, .ref 4, .ref 5, .int 0, .int (-1), .ref 6, .int 0, .int 0, .int 0, .int 0, .int 0, .int 0, .int 0, .int 0])), (3, .inl (0, 1601, .inl (fun _ => 0))), (4, .inl (0, 1601, .inl (fun _ => 0))), (5, .inl (0, 1601, .inl (fun _ => 0))), (6, .inr (7, [.int 0, .int 0, .int 0, .int 0, .int 0, .int 0, .ref 7, .ref 8, .ref 9, .ref 10, .ref 11, .ref 12, .ref 13, .ref 14, .ref 15])), (7, .inl (0, 24, .inl (fun _ => 0))), (8, .inl (0, 24, .inl (fun _ => 0))), (9, .inl (0, 24, .inl (fun _ => 0))), (10, .inl (0, 24, .inl (fun _ => 0))), (11, .inl (0, 96, .inl (fun _ => 0))), (12, .inl (0, 8, .inl (fun _ => 0))), (13, .inl (0, 1600, .inl (fun _ => 0))), (14, .inl (0, 3, .inl (fun _ => 0))), (15, .inl (0, 3, .inl (fun _ => 0))), (16, .inr (7, [.int 0, .int 0, .int 0, .int 0, .int 0, .int 0, .ref 17, .ref 18, .ref 19, .ref 20, .ref 21, .ref 22, .ref 23, .ref 24, .ref 25])), (17, .inl (0, 24, .inl (fun _ => 0))), (18, .inl (0, 24, .inl (fun _ => 0))), (19, .inl (0, 24, .inl (fun _ => 0))), (20, .inl (0, 24, .inl (fun _ => 0))), (21, .inl (0, 96, .inl (fun _ => 0))), (22, .inl (0, 8, .inl (fun _ => 0))), (23, .inl (0, 1600, .inl (fun _ => 0))), (24, .inl (0, 3, .inl (fun _ => 0))), (25, .inl (0, 3, .inl (fun _ => 0))), (26, .inr (10, [.ref 27, .ref 28, .ref 29, .ref 30, .ref 31, .ref 32, .ref 33, .ref 34, .ref 35, .long 0, .long 0, .int 0, .int 0])), (27, .inl (0, 40, .inl (fun _ => 0))), (28, .inl (0, 40, .inl (fun _ => 0))), (29, .inl (0, 40, .inl (fun _ => 0))), (30, .inl (0, 40, .inl (fun _ => 0))), (31, .inl (0, 40, .inl (fun _ => 0))), (32, .inl (0, 160, .inl l)), (33, .inl (0, 8, .inl r)), (34, .inl (0, 42, .inl (fun _ => 0))), (35, .inl (1, 40, .inr (.inl (fun _ => 0)))), (36, .inr (10, [.ref 37, .ref 38, .ref 39, .ref 40, .ref 41, .ref 42, .ref 43, .ref 44, .ref 45, .long 0, .long 0, .int 0, .int 0])), (37, .inl (0, 40, .inl (fun _ => 0))), (38, .inl (0, 40, .inl (fun _ => 0))), (39, .inl (0, 40, .inl (fun _ => 0))), (40, .inl (0, 40, .inl (fun _ => 0))), (41, .inl (0, 40, .inl (fun _ => 0))), (42, .inl (0, 160, .inl l)), (43, .inl (0, 8, .inl r)), (44, .inl (0, 42, .inl (fun _ => 0))), (45, .inl (1, 40, .inr (.inl (fun _ => 0)))), (46, .inr (3, [.ref 47, .int 0, .int 0, .int 0, .int 0, .ref 57, .ref 60, .ref 61, .long 0, .long 0, .int 0, .int 0, .int 0, .int 0, .int 0, .int 0])), (47, .inr (10, [.ref 48, .ref 49, .ref 50, .ref 51, .ref 52, .ref 53, .ref 54, .ref 55, .ref 56, .long 0, .long 0, .int 0, .int 0])), (48, .inl (0, 40, .inl (fun _ => 0))), (49, .inl (0, 40, .inl (fun _ => 0))), (50, .inl (0, 40, .inl (fun _ => 0))), (51, .inl (0, 40, .inl (fun _ => 0))), (52, .inl (0, 40, .inl (fun _ => 0))), (53, .inl (0, 160, .inl l)), (54, .inl (0, 8, .inl r)), (55, .inl (0, 42, .inl (fun _ => 0))), (56, .inl (1, 40, .inr (.inl (fun _ => 0)))), (57, .inr (9, [.ref 58, .ref 59, .int 0])), (58, .inl (0, 4, .inl (fun _ => 0))), (59, .inl (0, 128, .inl (fun _ => 0))), (60, .inl (0, 40, .inl (fun _ => 0))), (61, .inl (1, 42, .inr (.inl (fun _ => 0)))), (62, .inr (1, [.int 0, .ref 63])), (63, .inl (0, 120, .inl (fun _ => 0))), (64, .inr (5, [.int 0, .int 0, .ref 65, .ref 66]))]
def w11b : xC := [(307, .inr (4, [.ref 308, .ref 309, .int 0, .int 0, .int (-1)])), (308, .inl (0, 305, .inl (fun _ => 0))), (309, .inl (0, 40, .inl (fun _ => 0))), (310, .inr (2, [.int 0, .ref 311, .ref 312, .ref 313, .ref 314, .int 0, .int (-1), .int 0, .int (-1)])), (311, .inl (0, 3, .inl (fun _ => 0))), (312, .inl (0, 48, .inl (fun _ => 0))), (313, .inl (0, 6300, .inl (fun _ => 0))), (314, .inl (0, 42, .inl (fun _ => 0))), (315, .inr (6, [.ref 316, .int 0])), (316, .inl (0, 411, .inl (fun _ => 0))), (317, .inl (0, 6, .inl (fun _ => 0))), (318, .inl (0, 3, .inl (fun _ => 0)))]
def F160 : Nat → Int32 := mJ7_fill_53178 160 (-1) (fun _ => 0)
def F8 : Nat → Int32 := mJ7_fill_53178 8 (-1) (fun _ => 0)
def sgN (k : Nat) : Nat := cond (Nat.ble k 99) k (cond (Nat.ble k 166) (k - 99) (cond (Nat.ble k 178) (k + 141) (cond (Nat.ble k 999) (k + 120) (68 + 12 * ((k - 1000) / 20) + (k - 1000) % 20))))
theorem sgN_s (p j : Nat) (h : j < 12) : sgN (1000 + 20 * p + j) = 68 + 12 * p + j := by
  unfold sgN
  rw [cond_f (ble_no (by omega)), cond_f (ble_no (by omega)), cond_f (ble_no (by omega)), cond_f (ble_no (by omega))]
  omega
theorem nph_p {n b k : Nat} (h : 1 ≤ k) : nph n b k = k - 1 + n := by
  unfold nph
  exact cond_t (Nat.ble_eq_true_of_le h) _ _
theorem pFc_at (c : Nat) : ∀ i j, pFc c i j = if j < i then some (12 * j + c) else none
  | 0, j => by rw [if_neg (by omega)]; rfl
  | i + 1, j => by
    unfold pFc va_up
    by_cases e : j = i
    · rw [if_pos e, if_pos (by omega), e]
    · rw [if_neg e, pFc_at c i j]
      by_cases h : j < i
      · rw [if_pos h, if_pos (by omega)]
      · rw [if_neg h, if_neg (by omega)]
theorem pS_w (n : Nat) : pS n = wS n (n + 10) (w0Q F160 F8) := by
  have h0 : ∀ m b, nph m b 0 = b := fun _ _ => rfl
  have h : ∀ m b k, 1 ≤ k → nph m b k = k - 1 + m := fun m b k hk => nph_p hk
  have e : ∀ m b, nph m b 1 = m ∧ nph m b 2 = m + 1 ∧ nph m b 3 = m + 2 ∧ nph m b 4 = m + 3 ∧ nph m b 5 = m + 4 ∧ nph m b 6 = m + 5 ∧ nph m b 7 = m + 6 ∧ nph m b 8 = m + 7 ∧ nph m b 9 = m + 8 := fun m b => by
    rw [h m b 1 (by omega), h m b 2 (by omega), h m b 3 (by omega), h m b 4 (by omega), h m b 5 (by omega), h m b 6 (by omega), h m b 7 (by omega), h m b 8 (by omega), h m b 9 (by omega)]
    omega
  obtain ⟨e1, e2, e3, e4, e5, e6, e7, e8, e9⟩ := e (n + 1) n
  obtain ⟨d1, -, -, -, -, -, -, -, -⟩ := e (n + 11) (n + 10)
  unfold pS wS wY wY0 wD wD0 w0Q F160 F8
  simp only [List.map_cons, List.map_nil, List.cons_append, List.nil_append, xrn_mk, xre, xca, xcv, e1, e2, e3, e4, e5, e6, e7, e8, e9, d1]
theorem pW_mem {p : Nat} : ∀ {i : Nat}, p < i → ∀ x, x ∈ pS (12 * p + 3) → x ∈ pW i
  | 0, h, x, hx => absurd h (by omega)
  | i + 1, h, x, hx => by
    show x ∈ pW i ++ _
    by_cases e : p = i
    · subst e
      exact List.mem_append_right _ hx
    · exact List.mem_append_left _ (pW_mem (by omega) x hx)
theorem mem2 {C : xC} {φ : Nat → Nat} {x : Nat × xE} (h : x ∈ C) : xrn φ x ∈ C.map (xrn φ) := List.mem_map_of_mem h
def w11 (l r : Nat → Int32) : xC := (w11a l r ++ pX 65 64) ++ w11b
theorem pX_slot {p : Nat} (hp : p < 20) : ∀ x, x ∈ wS (68 + 12 * p) (68 + 12 * p + 10) (w0Q F160 F8) → x ∈ (pX 65 64).map (xrn (nph 2 1)) := fun x hx => by
  have e : ((pS (12 * p + 3)).map (xrn (nph 65 64))).map (xrn (nph 2 1)) = wS (68 + 12 * p) (68 + 12 * p + 10) (w0Q F160 F8) := by
    rw [pS_w, wS_map (y' := 67 + 12 * p) (d' := 67 + 12 * p + 10) _ (fun j hj => by rw [nph_p (by omega)]; omega) (fun j hj => by rw [nph_p (by omega)]; omega), wS_map (y' := 68 + 12 * p) (d' := 68 + 12 * p + 10) _ (fun j hj => by rw [nph_p (by omega)]; omega) (fun j hj => by rw [nph_p (by omega)]; omega)]
  rw [← e] at hx
  obtain ⟨y, hy, rfl⟩ := List.mem_map.mp hx
  obtain ⟨z, hz, rfl⟩ := List.mem_map.mp hy
  exact mem2 (mem2 (List.mem_cons_of_mem _ (List.mem_cons_of_mem _ (pW_mem hp z hz))))
theorem row_y : (fun j => (fyc j).map sgN) = (fun j => (((pFc 3 20) j).map (nph 65 64)).map (nph 2 1)) := funext fun j => by
  rw [pFc_at]
  by_cases h : j < 20
  · rw [if_pos h, fyc_in h]
    show some (sgN (1000 + 20 * j)) = some (nph 2 1 (nph 65 64 (12 * j + 3)))
    rw [show sgN (1000 + 20 * j) = 68 + 12 * j + 0 from sgN_s j 0 (by omega), nph_p (show 1 ≤ 12 * j + 3 by omega), nph_p (by omega)]
    congr 1
    omega
  · rw [if_neg h, show fyc j = none from if_neg h]
    rfl
theorem row_d : (fun j => (fdc j).map sgN) = (fun j => (((pFc 13 20) j).map (nph 65 64)).map (nph 2 1)) := funext fun j => by
  rw [pFc_at]
  by_cases h : j < 20
  · rw [if_pos h, fdc_in h]
    show some (sgN (1000 + 20 * j + 10)) = some (nph 2 1 (nph 65 64 (12 * j + 13)))
    rw [sgN_s j 10 (by omega), nph_p (show 1 ≤ 12 * j + 13 by omega), nph_p (by omega)]
    congr 1
    omega
  · rw [if_neg h, show fdc j = none from if_neg h]
    rfl
section OST
variable {l r f g h : Nat → Int32} {Q : Nat → QT}
def wAll (l r f g h : Nat → Int32) : xC := ((w11a l r).map (xrn (nph 2 1)) ++ ((pX 65 64).map (xrn (nph 2 1)) ++ w11b.map (xrn (nph 2 1)))) ++ (w12 f g h).map (xrn (nph 321 320))
set_option maxRecDepth 100000 in
theorem wC_N : (wC fyc fdc w0I w0J w0B (w0A l r f g h) w0M).map (xrn sgN) = (w11a l r).map (xrn (nph 2 1)) ++ ([(66, .inl (3, 20, .inr (.inr (.inr (.inr (fun j => (fyc j).map sgN)))))), (67, .inl (4, 20, .inr (.inr (.inr (.inr (fun j => (fdc j).map sgN))))))] ++ w11b.map (xrn (nph 2 1))) := by
  unfold wC w11a w11b
  simp only [List.map_cons, List.map_nil, List.cons_append, List.nil_append, xrn_mk]
  rfl
set_option maxRecDepth 100000 in
theorem wR_N : (wR w0I w0J w0B (w0A l r f g h) w0M).map (xrn sgN) = (w12 f g h).map (xrn (nph 321 320)) := by
  unfold wR w12
  simp only [List.map_cons, List.map_nil, xrn_mk]
  rfl
theorem wW_N : ∀ x ∈ wW w0I w0J w0B (w0A l r f g h) w0M (fun _ => w0Q F160 F8), xrn sgN x ∈ wAll l r f g h := fun x hx => by
  rcases List.mem_append.mp hx with hx | hx
  · have k := List.mem_map_of_mem (f := xrn sgN) hx
    rw [wC_N] at k
    rcases List.mem_append.mp k with k | k
    · exact List.mem_append_left _ (List.mem_append_left _ k)
    · rcases List.mem_append.mp k with k | k
      · refine List.mem_append_left _ (List.mem_append_right _ (List.mem_append_left _ ?_))
        rw [row_y, row_d] at k
        rcases List.mem_cons.mp k with k | k
        · rw [k]
          exact mem2 (φ := nph 2 1) (mem2 (φ := nph 65 64) List.mem_cons_self)
        · rw [List.mem_singleton.mp k]
          exact mem2 (φ := nph 2 1) (mem2 (φ := nph 65 64) (List.mem_cons_of_mem _ List.mem_cons_self))
      · exact List.mem_append_left _ (List.mem_append_right _ (List.mem_append_right _ k))
  · rcases List.mem_append.mp hx with hx | hx
    · have k := List.mem_map_of_mem (f := xrn sgN) hx
      rw [wR_N] at k
      exact List.mem_append_right _ k
    · obtain ⟨p, hp, hx⟩ := wQ_in _ hx
      exact List.mem_append_left _ (List.mem_append_right _ (List.mem_append_left _ (pX_slot hp _ (mem_of_map (wS_map _ (fun j hj => sgN_s p j (by omega)) (fun j hj => by rw [show 1000 + 20 * p + 10 + j = 1000 + 20 * p + (10 + j) by omega, sgN_s p (10 + j) (by omega)]; omega)) hx))))
theorem lbC_N : (lbC.map sgN).Pairwise (· ≠ ·) := by decide
theorem lbR_N : (lbR.map sgN).Pairwise (· ≠ ·) := by decide
theorem lbC_Nr : ∀ a ∈ lbC.map sgN, a ≤ 67 ∨ (308 ≤ a ∧ a ≤ 319) := by decide
theorem lbR_Nr : ∀ a ∈ lbR.map sgN, 320 ≤ a := by decide
theorem wQ_N : ∀ i, i ≤ 20 → ((wQ Q i).map (fun x => sgN x.1)).Pairwise (· ≠ ·) ∧ ∀ b ∈ (wQ Q i).map (fun x => sgN x.1), 68 ≤ b ∧ b < 68 + 12 * i
  | 0, _ => ⟨List.Pairwise.nil, fun b hb => absurd hb List.not_mem_nil⟩
  | i + 1, hi => by
    obtain ⟨h1, h2⟩ := wQ_N i (by omega)
    have hy : ∀ j, j < 10 → sgN (1000 + 20 * i + j) = 68 + 12 * i + j := fun j hj => sgN_s i j (by omega)
    have hd : ∀ j, j < 2 → sgN (1000 + 20 * i + 10 + j) = 68 + 12 * i + 10 + j := fun j hj => by rw [show 1000 + 20 * i + 10 + j = 1000 + 20 * i + (10 + j) by omega, sgN_s i (10 + j) (by omega)]; omega
    have r : ∀ b ∈ (wS (1000 + 20 * i) (1000 + 20 * i + 10) (Q i)).map (fun x => sgN x.1), 68 + 12 * i ≤ b ∧ b < 68 + 12 * i + 12 := fun b hb => by
      obtain ⟨y, hy9, rfl⟩ := List.mem_map.mp hb
      have r2 := wS_rng (mem_of_map (wS_map (Q i) hy hd) hy9)
      have r3 : (68 + 12 * i ≤ sgN y.1 ∧ sgN y.1 < 68 + 12 * i + 10) ∨ (68 + 12 * i + 10 ≤ sgN y.1 ∧ sgN y.1 < 68 + 12 * i + 10 + 2) := r2
      omega
    show ((wQ Q i ++ wS (1000 + 20 * i) (1000 + 20 * i + 10) (Q i)).map _).Pairwise _ ∧ ∀ b ∈ (wQ Q i ++ wS (1000 + 20 * i) (1000 + 20 * i + 10) (Q i)).map _, _
    rw [List.map_append]
    refine ⟨List.pairwise_append.mpr ⟨h1, pw_lab (y' := 68 + 12 * i) (d' := 68 + 12 * i + 10) _ hy hd (by omega), fun a ha b hb => ?_⟩, fun b hb => ?_⟩
    · have := h2 a ha
      have := r b hb
      omega
    · rcases List.mem_append.mp hb with hb | hb
      · have := h2 b hb
        omega
      · have := r b hb
        omega
theorem wW_Np : ((wW w0I w0J w0B (w0A l r f g h) w0M Q).map (fun x => sgN x.1)).Pairwise (· ≠ ·) := by
  unfold wW
  rw [List.map_append, List.map_append, wC_lab, wR_lab]
  obtain ⟨h1, h2⟩ := wQ_N (Q := Q) 20 (Nat.le_refl _)
  refine List.pairwise_append.mpr ⟨lbC_N, List.pairwise_append.mpr ⟨lbR_N, h1, fun a ha b hb => ?_⟩, fun a ha b hb => ?_⟩
  · have := lbR_Nr a ha
    have := h2 b hb
    omega
  · have := lbC_Nr a ha
    rcases List.mem_append.mp hb with hb | hb
    · have := lbR_Nr b hb
      omega
    · have := h2 b hb
      omega
theorem low_N {x : Int32} : ∀ (j : Nat) (v : Value), ([some (.ref 0), some (.ref 100), some (.ref 200), some (.int x)] : xLo)[j]? = some (some v) → ([some (.ref 0), some (.ref 1), some (.ref 320), some (.int x)] : xLo)[j]? = some (some (xcv sgN v))
  | 0, v, h => by cases h; rfl
  | 1, v, h => by cases h; rfl
  | 2, v, h => by cases h; rfl
  | 3, v, h => by cases h; rfl
  | j + 4, v, h => by cases h
def w0C (l r : Nat → Int32) : xC := (w11a l r).map (xrn (nph 2 1)) ++ ((pX 65 64).map (xrn (nph 2 1)) ++ w11b.map (xrn (nph 2 1)))
theorem w11_st : nSt 319 (w11 l r) := nSt_app (nSt_app (nSt_b rfl) (pXst 319 (by decide))) (nSt_b rfl)
theorem w0C_map : (w11 l r).map (xrn (nph 2 1)) = w0C l r := by
  unfold w11 w0C
  rw [List.map_append, List.map_append, List.append_assoc]
theorem w0C_st : nSt 320 (w0C l r) := by
  rw [← w0C_map]
  exact nSt_map w11_st (fun k hk => nph_lt (t := 319) (by omega) hk (by omega))
theorem w11a_len : (w11a l r).length = 65 := rfl
theorem w11b_len : w11b.length = 12 := rfl
theorem pX_len : (pX 65 64).length = 242 := by decide +kernel
theorem w0C_len : (w0C l r).length = 319 := by
  unfold w0C
  rw [List.length_append, List.length_append, List.length_map, List.length_map, List.length_map, w11a_len, w11b_len, pX_len]
theorem pX_pos : (pX 65 64).all (fun q => Nat.ble 1 q.1) = true := by decide +kernel
def w11t (l r : Nat → Int32) : xC := ((w11a l r).tail ++ pX 65 64) ++ w11b
theorem w11_cons : w11 l r = (0, (.inr (11, [.ref 1, .int 0, .ref 2, .ref 16, .ref 26, .ref 36, .ref 46, .ref 62, .ref 64, .ref 307, .ref 310, .ref 315, .ref 317, .ref 318, .int 1, .int 0]))) :: w11t l r := rfl
theorem w11t_pos : (w11t l r).all (fun q => Nat.ble 1 q.1) = true := by
  unfold w11t
  rw [List.all_append, List.all_append, pX_pos]
  rfl
theorem w11t_map : (1, xre (nph 2 1) (.inr (11, [.ref 1, .int 0, .ref 2, .ref 16, .ref 26, .ref 36, .ref 46, .ref 62, .ref 64, .ref 307, .ref 310, .ref 315, .ref 317, .ref 318, .int 1, .int 0]))) :: (w11t l r).map (xrn (nph 2 1)) = w0C l r := by
  rw [← w0C_map, w11_cons]
  rfl
theorem w12_cons : w12 f g h = (0, (.inr (12, [.ref 1, .int 0, .int 0, .int 0, .int 0, .int 0, .int 0, .long 0, .int 0, .int (-1), .int 0, .int (-1), .int (-1), .int 0, .ref 2, .ref 3, .ref 4, .ref 5, .ref 6, .ref 7, .ref 8, .ref 9, .ref 10, .ref 11, .ref 12, .ref 13, .ref 14, .ref 15, .int 0, .int 1, .int 0, .int 0, .ref 16, .ref 17, .ref 18, .ref 19, .ref 20, .int 0, .int 0, .ref 21, .int 0, .int 0, .int 0, .ref 22, .ref 23, .ref 24, .ref 25, .ref 26, .ref 27, .ref 28, .ref 29, .ref 30, .ref 31, .ref 32, .ref 33, .int 0, .int 0, .long 1, .ref 34, .ref 35, .ref 36, .ref 37, .ref 38, .ref 39, .int 0, .int 0, .int 0, .int 0, .int 0, .ref 40, .ref 41, .ref 42, .ref 43, .int 0, .ref 44, .ref 45, .ref 46, .ref 47, .ref 48, .ref 49, .ref 50, .int 0]))) :: (w12 f g h).tail := rfl
theorem w12_pos : ((w12 f g h).tail).all (fun q => Nat.ble 1 q.1) = true := rfl
end OST
theorem oX11_b (l9 : Launch) : xCon l9 3 318 30721 yX11_init cX11_init 1 11 [.null, .int 0, .null, .null, .null, .null, .null, .null, .null, .null, .null, .null, .null, .null, .int 0, .int 0] ((0, (.inr (11, [.ref 1, .int 0, .ref 2, .ref 16, .ref 26, .ref 36, .ref 46, .ref 62, .ref 64, .ref 307, .ref 310, .ref 315, .ref 317, .ref 318, .int 1, .int 0]))) :: w11t F160 F8) := oX11_init l9
theorem oX12_b (l9 : Launch) : xCon l9 1 50 28627 yX12_init cX12_init 2 12 [.null, .int 0, .int 0, .int 0, .int 0, .int 0, .int 0, .long 0, .int 0, .int 0, .int 0, .int 0, .int 0, .int 0, .null, .null, .null, .null, .null, .null, .null, .null, .null, .null, .null, .null, .null, .null, .int 0, .int 0, .int 0, .int 0, .null, .null, .null, .null, .null, .int 0, .int 0, .null, .int 0, .int 0, .int 0, .null, .null, .null, .null, .null, .null, .null, .null, .null, .null, .null, .null, .int 0, .int 0, .long 0, .null, .null, .null, .null, .null, .null, .int 0, .int 0, .int 0, .int 0, .int 0, .null, .null, .null, .null, .int 0, .null, .null, .null, .null, .null, .null, .null, .int 0] ((0, (.inr (12, [.ref 1, .int 0, .int 0, .int 0, .int 0, .int 0, .int 0, .long 0, .int 0, .int (-1), .int 0, .int (-1), .int (-1), .int 0, .ref 2, .ref 3, .ref 4, .ref 5, .ref 6, .ref 7, .ref 8, .ref 9, .ref 10, .ref 11, .ref 12, .ref 13, .ref 14, .ref 15, .int 0, .int 1, .int 0, .int 0, .ref 16, .ref 17, .ref 18, .ref 19, .ref 20, .int 0, .int 0, .ref 21, .int 0, .int 0, .int 0, .ref 22, .ref 23, .ref 24, .ref 25, .ref 26, .ref 27, .ref 28, .ref 29, .ref 30, .ref 31, .ref 32, .ref 33, .int 0, .int 0, .long 1, .ref 34, .ref 35, .ref 36, .ref 37, .ref 38, .ref 39, .int 0, .int 0, .int 0, .int 0, .int 0, .ref 40, .ref 41, .ref 42, .ref 43, .int 0, .ref 44, .ref 45, .ref 46, .ref 47, .ref 48, .ref 49, .ref 50, .int 0]))) :: (w12 (oFk (fun _ => 0) 6) (oFk (fun _ => 0) 3520) (oFk (fun _ => 0) 176)).tail) := oX12_init l9
section OST2
variable {l9 : Launch} {X : nCtx}
set_option maxRecDepth 100000 in
theorem o_start (K : oY l9 code 4 "TrainCollectorLaw" ret room_1 X) (a1 : va_AO RX10 X.1.2.2.2) (a2 : va_AO RX1 X.1.2.2.2) (kk : nR X 370 59446 18 [some (.ref 0), some (.ref 100), some (.ref 200), some (.int 0)] [] (wW w0I w0J w0B (w0A F160 F8 (oFk (fun _ => 0) 6) (oFk (fun _ => 0) 3520) (oFk (fun _ => 0) 176)) w0M (fun _ => w0Q F160 F8))) : nR X 0 0 0 [some (.ref 0), none, none, none] [] [] := by
  refine o_new K pq_L rfl (ci := 11) (N := 16) ⟨_, rfl, rfl, xtb_in (i := 174) (by decide +kernel) rfl, xtb_in (i := 175) (by decide +kernel) rfl, xtb_in (i := 153) (by decide +kernel) rfl⟩ 1 (by decide) (fs := [.null, .int 0, .null, .null, .null, .null, .null, .null, .null, .null, .null, .null, .null, .null, .int 0, .int 0]) (by decide +kernel) rfl nSt_nil rfl rfl (Nat.le_of_ble_eq_true rfl) (Nat.le_of_ble_eq_true rfl) ?_
  refine o_go K pq_L 1 (pc' := 4) (L' := [some (.ref 0), none, none, none]) (S' := [.ref 1, .ref 1]) (C' := [(1, .inr (11, [.null, .int 0, .null, .null, .null, .null, .null, .null, .null, .null, .null, .null, .null, .null, .int 0, .int 0]))]) rfl trivial ?_
  refine o_con K a1 a2 pq_L rfl lkL_9 cy_X11_init ii_X11_init ar_X11_init (oX11_b l9) (Nat.le_of_ble_eq_true rfl) (Nat.le_of_ble_eq_true rfl) (Nat.le_of_ble_eq_true rfl) (Nat.le_of_ble_eq_true rfl) 2 0 1 (by decide) (by decide) rfl rfl (nSt_b rfl) rfl rfl (Nat.le_of_ble_eq_true rfl) w11t_pos (C2 := w0C F160 F8) w11t_map ?_
  refine o_go K pq_L 1 (pc' := 8) (L' := [some (.ref 0), some (.ref 1), none, none]) (S' := []) (C' := w0C F160 F8) rfl trivial ?_
  refine o_new K pq_L rfl (ci := 12) (N := 82) ⟨_, rfl, rfl, xtb_in (i := 1472) (by decide +kernel) rfl, xtb_in (i := 1473) (by decide +kernel) rfl, xtb_in (i := 165) (by decide +kernel) rfl⟩ 320 (by decide) (fs := [.null, .int 0, .int 0, .int 0, .int 0, .int 0, .int 0, .long 0, .int 0, .int 0, .int 0, .int 0, .int 0, .int 0, .null, .null, .null, .null, .null, .null, .null, .null, .null, .null, .null, .null, .null, .null, .int 0, .int 0, .int 0, .int 0, .null, .null, .null, .null, .null, .int 0, .int 0, .null, .int 0, .int 0, .int 0, .null, .null, .null, .null, .null, .null, .null, .null, .null, .null, .null, .null, .int 0, .int 0, .long 0, .null, .null, .null, .null, .null, .null, .int 0, .int 0, .int 0, .int 0, .int 0, .null, .null, .null, .null, .int 0, .null, .null, .null, .null, .null, .null, .null, .int 0]) (by decide +kernel) rfl w0C_st rfl rfl (Nat.le_of_ble_eq_true rfl) (Nat.le_of_ble_eq_true rfl) ?_
  refine o_go K pq_L 1 (pc' := 12) (L' := [some (.ref 0), some (.ref 1), none, none]) (S' := [.ref 320, .ref 320]) (C' := w0C F160 F8 ++ [(320, .inr (12, [.null, .int 0, .int 0, .int 0, .int 0, .int 0, .int 0, .long 0, .int 0, .int 0, .int 0, .int 0, .int 0, .int 0, .null, .null, .null, .null, .null, .null, .null, .null, .null, .null, .null, .null, .null, .null, .int 0, .int 0, .int 0, .int 0, .null, .null, .null, .null, .null, .int 0, .int 0, .null, .int 0, .int 0, .int 0, .null, .null, .null, .null, .null, .null, .null, .null, .null, .null, .null, .null, .int 0, .int 0, .long 0, .null, .null, .null, .null, .null, .null, .int 0, .int 0, .int 0, .int 0, .int 0, .null, .null, .null, .null, .int 0, .null, .null, .null, .null, .null, .null, .null, .int 0]))]) rfl trivial ?_
  refine o_con K a1 a2 pq_L rfl lkL_12 cy_X12_init ii_X12_init ar_X12_init (oX12_b l9) (Nat.le_of_ble_eq_true rfl) (Nat.le_of_ble_eq_true rfl) (Nat.le_of_ble_eq_true rfl) (Nat.le_of_ble_eq_true rfl) 321 319 320 (by decide) (by decide) ?_ rfl (nSt_app (nSt_up w0C_st (by decide)) (nSt_b rfl)) rfl rfl (Nat.le_of_ble_eq_true rfl) w12_pos (C2 := wAll F160 F8 (oFk (fun _ => 0) 6) (oFk (fun _ => 0) 3520) (oFk (fun _ => 0) 176)) ?_ ?_
  · have k := lget_end (w0C F160 F8) ((320, .inr (12, [.null, .int 0, .int 0, .int 0, .int 0, .int 0, .int 0, .long 0, .int 0, .int 0, .int 0, .int 0, .int 0, .int 0, .null, .null, .null, .null, .null, .null, .null, .null, .null, .null, .null, .null, .null, .null, .int 0, .int 0, .int 0, .int 0, .null, .null, .null, .null, .null, .int 0, .int 0, .null, .int 0, .int 0, .int 0, .null, .null, .null, .null, .null, .null, .null, .null, .null, .null, .null, .null, .int 0, .int 0, .long 0, .null, .null, .null, .null, .null, .null, .int 0, .int 0, .int 0, .int 0, .int 0, .null, .null, .null, .null, .int 0, .null, .null, .null, .null, .null, .null, .null, .int 0])) : Nat × xE)
    rw [w0C_len] at k
    exact k
  · have k := lset_end (w0C F160 F8) ((320, .inr (12, [.null, .int 0, .int 0, .int 0, .int 0, .int 0, .int 0, .long 0, .int 0, .int 0, .int 0, .int 0, .int 0, .int 0, .null, .null, .null, .null, .null, .null, .null, .null, .null, .null, .null, .null, .null, .null, .int 0, .int 0, .int 0, .int 0, .null, .null, .null, .null, .null, .int 0, .int 0, .null, .int 0, .int 0, .int 0, .null, .null, .null, .null, .null, .null, .null, .null, .null, .null, .null, .null, .int 0, .int 0, .long 0, .null, .null, .null, .null, .null, .null, .int 0, .int 0, .int 0, .int 0, .int 0, .null, .null, .null, .null, .int 0, .null, .null, .null, .null, .null, .null, .null, .int 0])) : Nat × xE) (320, xre (nph 321 320) (.inr (12, [.ref 1, .int 0, .int 0, .int 0, .int 0, .int 0, .int 0, .long 0, .int 0, .int (-1), .int 0, .int (-1), .int (-1), .int 0, .ref 2, .ref 3, .ref 4, .ref 5, .ref 6, .ref 7, .ref 8, .ref 9, .ref 10, .ref 11, .ref 12, .ref 13, .ref 14, .ref 15, .int 0, .int 1, .int 0, .int 0, .ref 16, .ref 17, .ref 18, .ref 19, .ref 20, .int 0, .int 0, .ref 21, .int 0, .int 0, .int 0, .ref 22, .ref 23, .ref 24, .ref 25, .ref 26, .ref 27, .ref 28, .ref 29, .ref 30, .ref 31, .ref 32, .ref 33, .int 0, .int 0, .long 1, .ref 34, .ref 35, .ref 36, .ref 37, .ref 38, .ref 39, .int 0, .int 0, .int 0, .int 0, .int 0, .ref 40, .ref 41, .ref 42, .ref 43, .int 0, .ref 44, .ref 45, .ref 46, .ref 47, .ref 48, .ref 49, .ref 50, .int 0])))
    rw [w0C_len] at k
    rw [k, List.append_assoc]
    rfl
  · refine o_go K pq_L 3 (pc' := 18) (L' := [some (.ref 0), some (.ref 1), some (.ref 320), some (.int 0)]) (S' := []) (C' := wAll F160 F8 (oFk (fun _ => 0) 6) (oFk (fun _ => 0) 3520) (oFk (fun _ => 0) 176)) rfl trivial ?_
    exact o_perm2 (L2 := [some (.ref 0), some (.ref 100), some (.ref 200), some (.int 0)]) (S2 := []) sgN wW_N wW_Np rfl rfl (low_N (x := 0)) rfl kk
end OST2
