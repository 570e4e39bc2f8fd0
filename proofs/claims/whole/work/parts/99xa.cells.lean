/-- the cells: the class from 100 on, the reference from 200 on, the slots from 1000 on -/
def wC (fy fd : Nat → Option Nat) (I : Nat → Int32) (J : Nat → Int64) (B : Nat → Bool) (A : Nat → Nat → Int32) (M : Nat → Nat → Int64) : xC := [(100, .inr (11, [.ref 101, .int (I 1), .ref 102, .ref 116, .ref 126, .ref 136, .ref 146, .ref 162, .ref 164, .ref 167, .ref 170, .ref 175, .ref 177, .ref 178, .int (I 14), .int (I 15)])), (101, .inl (0, 1600, .inl (A 1))), (102, .inr (8, [.ref 103, .ref 104, .ref 105, .int (I 203), .int (I 204), .ref 106, .int (I 206), .int (I 207), .int (I 208), .int (I 209), .int (I 210), .int (I 211), .int (I 212), .int (xb (B 213))])), (103, .inl (0, 1601, .inl (A 3))), (104, .inl (0, 1601, .inl (A 4))), (105, .inl (0, 1601, .inl (A 5))), (106, .inr (7, [.int (I 600), .int (I 601), .int (I 602), .int (I 603), .int (I 604), .int (I 605), .ref 107, .ref 108, .ref 109, .ref 110, .ref 111, .ref 112, .ref 113, .ref 114, .ref 115])), (107, .inl (0, 24, .inl (A 7))), (108, .inl (0, 24, .inl (A 8))), (109, .inl (0, 24, .inl (A 9))), (110, .inl (0, 24, .inl (A 10))), (111, .inl (0, 96, .inl (A 11))), (112, .inl (0, 8, .inl (A 12))), (113, .inl (0, 1600, .inl (A 13))), (114, .inl (0, 3, .inl (A 14))), (115, .inl (0, 3, .inl (A 15))), (116, .inr (7, [.int (I 1600), .int (I 1601), .int (I 1602), .int (I 1603), .int (I 1604), .int (I 1605), .ref 117, .ref 118, .ref 119, .ref 120, .ref 121, .ref 122, .ref 123, .ref 124, .ref 125])), (117, .inl (0, 24, .inl (A 17))), (118, .inl (0, 24, .inl (A 18))), (119, .inl (0, 24, .inl (A 19))), (120, .inl (0, 24, .inl (A 20))), (121, .inl (0, 96, .inl (A 21))), (122, .inl (0, 8, .inl (A 22))), (123, .inl (0, 1600, .inl (A 23))), (124, .inl (0, 3, .inl (A 24))), (125, .inl (0, 3, .inl (A 25))), (126, .inr (10, [.ref 127, .ref 128, .ref 129, .ref 130, .ref 131, .ref 132, .ref 133, .ref 134, .ref 135, .long (J 2609), .long (J 2610), .int (I 2611), .int (I 2612)])), (127, .inl (0, 40, .inl (A 27))), (128, .inl (0, 40, .inl (A 28))), (129, .inl (0, 40, .inl (A 29))), (130, .inl (0, 40, .inl (A 30))), (131, .inl (0, 40, .inl (A 31))), (132, .inl (0, 160, .inl (A 32))), (133, .inl (0, 8, .inl (A 33))), (134, .inl (0, 42, .inl (A 34))), (135, .inl (1, 40, .inr (.inl (M 35)))), (136, .inr (10, [.ref 137, .ref 138, .ref 139, .ref 140, .ref 141, .ref 142, .ref 143, .ref 144, .ref 145, .long (J 3609), .long (J 3610), .int (I 3611), .int (I 3612)])), (137, .inl (0, 40, .inl (A 37))), (138, .inl (0, 40, .inl (A 38))), (139, .inl (0, 40, .inl (A 39))), (140, .inl (0, 40, .inl (A 40))), (141, .inl (0, 40, .inl (A 41))), (142, .inl (0, 160, .inl (A 42))), (143, .inl (0, 8, .inl (A 43))), (144, .inl (0, 42, .inl (A 44))), (145, .inl (1, 40, .inr (.inl (M 45)))), (146, .inr (3, [.ref 147, .int (I 4601), .int (I 4602), .int (I 4603), .int (xb (B 4604)), .ref 157, .ref 160, .ref 161, .long (J 4608), .long (J 4609), .int (I 4610), .int (I 4611), .int (I 4612), .int (I 4613), .int (I 4614), .int (xb (B 4615))])), (147, .inr (10, [.ref 148, .ref 149, .ref 150, .ref 151, .ref 152, .ref 153, .ref 154, .ref 155, .ref 156, .long (J 4709), .long (J 4710), .int (I 4711), .int (I 4712)])), (148, .inl (0, 40, .inl (A 48))), (149, .inl (0, 40, .inl (A 49))), (150, .inl (0, 40, .inl (A 50))), (151, .inl (0, 40, .inl (A 51))), (152, .inl (0, 40, .inl (A 52))), (153, .inl (0, 160, .inl (A 53))), (154, .inl (0, 8, .inl (A 54))), (155, .inl (0, 42, .inl (A 55))), (156, .inl (1, 40, .inr (.inl (M 56)))), (157, .inr (9, [.ref 158, .ref 159, .int (I 5702)])), (158, .inl (0, 4, .inl (A 58))), (159, .inl (0, 128, .inl (A 59))), (160, .inl (0, 40, .inl (A 60))), (161, .inl (1, 42, .inr (.inl (M 61)))), (162, .inr (1, [.int (I 6200), .ref 163])), (163, .inl (0, 120, .inl (A 63))), (164, .inr (5, [.int (I 6400), .int (I 6401), .ref 165, .ref 166])), (165, .inl (3, 20, .inr (.inr (.inr (.inr fy))))), (166, .inl (4, 20, .inr (.inr (.inr (.inr fd))))), (167, .inr (4, [.ref 168, .ref 169, .int (I 6702), .int (I 6703), .int (I 6704)])), (168, .inl (0, 305, .inl (A 68))), (169, .inl (0, 40, .inl (A 69))), (170, .inr (2, [.int (I 7000), .ref 171, .ref 172, .ref 173, .ref 174, .int (I 7005), .int (I 7006), .int (I 7007), .int (I 7008)])), (171, .inl (0, 3, .inl (A 71))), (172, .inl (0, 48, .inl (A 72))), (173, .inl (0, 6300, .inl (A 73))), (174, .inl (0, 42, .inl (A 74))), (175, .inr (6, [.ref 176, .int (I 7501)])), (176, .inl (0, 411, .inl (A 76))), (177, .inl (0, 6, .inl (A 77))), (178, .inl (0, 3, .inl (A 78)))]
def wR (I : Nat → Int32) (J : Nat → Int64) (B : Nat → Bool) (A : Nat → Nat → Int32) (M : Nat → Nat → Int64) : xC := [(200, .inr (12, [.ref 201, .int (I 20001), .int (I 20002), .int (I 20003), .int (I 20004), .int (I 20005), .int (I 20006), .long (J 20007), .int (I 20008), .int (I 20009), .int (I 20010), .int (I 20011), .int (I 20012), .int (I 20013), .ref 202, .ref 203, .ref 204, .ref 205, .ref 206, .ref 207, .ref 208, .ref 209, .ref 210, .ref 211, .ref 212, .ref 213, .ref 214, .ref 215, .int (I 20028), .int (I 20029), .int (I 20030), .int (I 20031), .ref 216, .ref 217, .ref 218, .ref 219, .ref 220, .int (I 20037), .int (I 20038), .ref 221, .int (I 20040), .int (xb (B 20041)), .int (xb (B 20042)), .ref 222, .ref 223, .ref 224, .ref 225, .ref 226, .ref 227, .ref 228, .ref 229, .ref 230, .ref 231, .ref 232, .ref 233, .int (I 20055), .int (I 20056), .long (J 20057), .ref 234, .ref 235, .ref 236, .ref 237, .ref 238, .ref 239, .int (I 20064), .int (I 20065), .int (I 20066), .int (I 20067), .int (xb (B 20068)), .ref 240, .ref 241, .ref 242, .ref 243, .int (I 20073), .ref 244, .ref 245, .ref 246, .ref 247, .ref 248, .ref 249, .ref 250, .int (I 20081)])), (201, .inl (0, 1800, .inl (A 201))), (202, .inl (0, 2, .inl (A 202))), (203, .inl (0, 2, .inl (A 203))), (204, .inl (0, 48, .inl (A 204))), (205, .inl (0, 48, .inl (A 205))), (206, .inl (0, 192, .inl (A 206))), (207, .inl (0, 48, .inl (A 207))), (208, .inl (0, 2, .inl (A 208))), (209, .inl (0, 16, .inl (A 209))), (210, .inl (0, 2, .inl (A 210))), (211, .inl (0, 6, .inl (A 211))), (212, .inl (0, 6, .inl (A 212))), (213, .inl (0, 3200, .inl (A 213))), (214, .inl (0, 3200, .inl (A 214))), (215, .inl (1, 48, .inr (.inl (M 215)))), (216, .inl (0, 20, .inl (A 216))), (217, .inl (0, 20, .inl (A 217))), (218, .inl (2, 20, .inl (A 218))), (219, .inl (0, 20, .inl (A 219))), (220, .inl (0, 20, .inl (A 220))), (221, .inl (0, 500, .inl (A 221))), (222, .inl (0, 6, .inl (A 222))), (223, .inl (0, 22, .inl (A 223))), (224, .inl (0, 880, .inl (A 224))), (225, .inl (0, 880, .inl (A 225))), (226, .inl (0, 880, .inl (A 226))), (227, .inl (0, 880, .inl (A 227))), (228, .inl (0, 880, .inl (A 228))), (229, .inl (0, 880, .inl (A 229))), (230, .inl (0, 3520, .inl (A 230))), (231, .inl (0, 176, .inl (A 231))), (232, .inl (0, 22, .inl (A 232))), (233, .inl (0, 2640, .inl (A 233))), (234, .inl (1, 500, .inr (.inl (M 234)))), (235, .inl (0, 12, .inl (A 235))), (236, .inl (0, 40, .inl (A 236))), (237, .inl (0, 40, .inl (A 237))), (238, .inl (0, 40, .inl (A 238))), (239, .inl (0, 40, .inl (A 239))), (240, .inl (0, 40, .inl (A 240))), (241, .inl (0, 40, .inl (A 241))), (242, .inl (0, 40, .inl (A 242))), (243, .inl (0, 40, .inl (A 243))), (244, .inl (0, 16, .inl (A 244))), (245, .inl (0, 16, .inl (A 245))), (246, .inl (0, 16, .inl (A 246))), (247, .inl (0, 100, .inl (A 247))), (248, .inl (0, 6300, .inl (A 248))), (249, .inl (0, 41, .inl (A 249))), (250, .inl (0, 420, .inl (A 250)))]
def wS (y d : Nat) (x : QT) : xC := [(y, .inr (10, [.ref (y + 1), .ref (y + 2), .ref (y + 3), .ref (y + 4), .ref (y + 5), .ref (y + 6), .ref (y + 7), .ref (y + 8), .ref (y + 9), .long x.1, .long x.2.1, .int x.2.2.1, .int x.2.2.2.1])), ((y + 1), .inl (0, 40, .inl x.2.2.2.2.1)), ((y + 2), .inl (0, 40, .inl x.2.2.2.2.2.1)), ((y + 3), .inl (0, 40, .inl x.2.2.2.2.2.2.1)), ((y + 4), .inl (0, 40, .inl x.2.2.2.2.2.2.2.1)), ((y + 5), .inl (0, 40, .inl x.2.2.2.2.2.2.2.2.1)), ((y + 6), .inl (0, 160, .inl x.2.2.2.2.2.2.2.2.2.1)), ((y + 7), .inl (0, 8, .inl x.2.2.2.2.2.2.2.2.2.2.1)), ((y + 8), .inl (0, 42, .inl x.2.2.2.2.2.2.2.2.2.2.2.1)), ((y + 9), .inl (1, 40, .inr (.inl x.2.2.2.2.2.2.2.2.2.2.2.2.1))), (d, .inr (1, [.int x.2.2.2.2.2.2.2.2.2.2.2.2.2.1, .ref (d + 1)])), ((d + 1), .inl (0, 120, .inl x.2.2.2.2.2.2.2.2.2.2.2.2.2.2))]
def wQ (Q : Nat → QT) : Nat → xC
  | 0 => []
  | i + 1 => wQ Q i ++ wS (1000 + 20 * i) (1000 + 20 * i + 10) (Q i)
/-- all slots but one -/
def wQo (Q : Nat → QT) (q : Nat) : Nat → xC
  | 0 => []
  | i + 1 => cond (Nat.beq i q) (wQo Q q i) (wQo Q q i ++ wS (1000 + 20 * i) (1000 + 20 * i + 10) (Q i))
def fyc : Nat → Option Nat := fun j => if j < 20 then some (1000 + 20 * j) else none
def fdc : Nat → Option Nat := fun j => if j < 20 then some (1000 + 20 * j + 10) else none
/-- with one slot by its own names -/
def fyq (q : Nat) : Nat → Option Nat := fun j => if j = q then some 500000 else fyc j
def fdq (q : Nat) : Nat → Option Nat := fun j => if j = q then some 600000 else fdc j
def wW (I : Nat → Int32) (J : Nat → Int64) (B : Nat → Bool) (A : Nat → Nat → Int32) (M : Nat → Nat → Int64) (Q : Nat → QT) : xC := wC fyc fdc I J B A M ++ (wR I J B A M ++ wQ Q 20)
def wO (q : Nat) (x : QT) (I : Nat → Int32) (J : Nat → Int64) (B : Nat → Bool) (A : Nat → Nat → Int32) (M : Nat → Nat → Int64) (Q : Nat → QT) : xC := (wC (fyq q) (fdq q) I J B A M ++ wS 500000 600000 x) ++ (wR I J B A M ++ wQo Q q 20)
theorem wO_perm (q : Nat) (x : QT) (I : Nat → Int32) (J : Nat → Int64) (B : Nat → Bool) (A : Nat → Nat → Int32) (M : Nat → Nat → Int64) (Q : Nat → QT) : (wO q x I J B A M Q).Perm (wC (fyq q) (fdq q) I J B A M ++ (wR I J B A M ++ (wS 500000 600000 x ++ wQo Q q 20))) := by
  unfold wO
  rw [List.append_assoc]
  exact (List.perm_append_comm_assoc _ _ _).append_left _
section OPR
variable {X : nCtx} {k z pc : Nat} {L L2 : xLo} {S S2 : List Value} {C C2 : xC}
/-- the world by other names, in any order -/
theorem o_perm2 (σ : Nat → Nat) (hsub : ∀ x, x ∈ C2 → xrn σ x ∈ C) (hinj : (C2.map (fun x => σ x.1)).Pairwise (· ≠ ·)) (h0 : σ 0 = 0) (hL : L.length = L2.length) (hL2 : ∀ (j : Nat) (v : Value), L2[j]? = some (some v) → L[j]? = some (some (xcv σ v))) (hS : S = S2.map (xcv σ)) (kk : nR X k z pc L2 S2 C2) : nR X k z pc L S C := by
  obtain ⟨⟨p, l, e, s⟩, ⟨m, args, below⟩, ⟨meth, c⟩, ⟨dd, tc, ad0, A⟩, ⟨cc, nL, own, rt⟩, R, Q⟩ := X
  intro ad h00 H locs ls hl hP hD hS0
  have pick : ∀ (i : Nat) (q : Nat × va_E), (xws tc (fun k => ad (σ k)) C2)[i]? = some q → ∃ (a : Nat × xE) (j : Nat), C2[i]? = some a ∧ C[j]? = some (xrn σ a) ∧ (xws tc ad C)[j]? = some q := by
    intro i q hq
    rw [xws, List.getElem?_map] at hq
    cases ha : C2[i]? with
    | none => rw [ha] at hq; simp at hq
    | some a =>
      rw [ha] at hq
      obtain ⟨j, hj⟩ := List.getElem?_of_mem (hsub a (List.mem_of_getElem? ha))
      refine ⟨a, j, rfl, hj, ?_⟩
      have e1 := xws_get (tc := tc) (ad := ad) (show C[j]? = some (σ a.1, xre σ a.2) from hj)
      rw [xce_comp] at e1
      rw [e1]
      exact hq
  have key := kk (fun k => ad (σ k)) (by show ad (σ 0) = _; rw [h0]; exact h00) H locs ls ⟨hl.1, hL ▸ hl.2.1, hl.2.2.1, fun j v hv => by
      have := hl.2.2.2 j _ (hL2 j v hv)
      rw [xcv_comp] at this
      exact this⟩ (fun i q hq => by
      obtain ⟨a, j, -, -, hj⟩ := pick i q hq
      exact hP j q hj) ⟨fun i j x y hi hj hxy => by
      obtain ⟨a, i', a1, a2, a3⟩ := pick i x hi
      obtain ⟨b, j', b1, b2, b3⟩ := pick j y hj
      have e1 := hD.1 i' j' x y a3 b3 hxy
      subst e1
      have e2 : xrn σ a = xrn σ b := Option.some.inj (a2.symm.trans b2)
      have e3 : σ a.1 = σ b.1 := congrArg Prod.fst e2
      have hp := List.pairwise_iff_getElem.mp hinj
      have li : i < (C2.map (fun x => σ x.1)).length := by
        rw [List.length_map]
        exact (List.getElem?_eq_some_iff.mp a1).1
      have lj : j < (C2.map (fun x => σ x.1)).length := by
        rw [List.length_map]
        exact (List.getElem?_eq_some_iff.mp b1).1
      have gi : (C2.map (fun x => σ x.1))[i] = σ a.1 := by
        rw [List.getElem_map, (List.getElem?_eq_some_iff.mp a1).2]
      have gj : (C2.map (fun x => σ x.1))[j] = σ b.1 := by
        rw [List.getElem_map, (List.getElem?_eq_some_iff.mp b1).2]
      rcases Nat.lt_trichotomy i j with h | h | h
      · exact absurd (gi.trans (e3.trans gj.symm)) (hp i j li lj h)
      · exact h
      · exact absurd (gj.trans (e3.symm.trans gi.symm)) (hp j i lj li h), fun i q hq => by
      obtain ⟨a, j, -, -, hj⟩ := pick i q hq
      exact hD.2 j q hj⟩ hS0
  have e3 : S2.map (xcv fun k => ad (σ k)) = S.map (xcv ad) := by
    rw [hS, List.map_map]
    exact List.map_congr_left (fun v _ => (xcv_comp ad σ v).symm)
  rw [e3] at key
  exact key
end OPR
theorem fyc_in {j : Nat} (h : j < 20) : fyc j = some (1000 + 20 * j) := if_pos h
theorem fdc_in {j : Nat} (h : j < 20) : fdc j = some (1000 + 20 * j + 10) := if_pos h
/-- slot q by the names from 500000 on -/
def sgO (q : Nat) : Nat → Nat := fun k => cond (Nat.ble 600000 k) (1000 + 20 * q + 10 + (k - 600000)) (cond (Nat.ble 500000 k) (1000 + 20 * q + (k - 500000)) k)
def sgI (q : Nat) : Nat → Nat := fun k => cond (Nat.ble k 999) k (if k < 1000 + 20 * q then k else if k < 1000 + 20 * q + 10 then 500000 + (k - (1000 + 20 * q)) else if k < 1000 + 20 * q + 20 then 600000 + (k - (1000 + 20 * q + 10)) else k)
theorem ble_no {a b : Nat} (h : b < a) : Nat.ble a b = false := by
  cases e : Nat.ble a b with
  | false => rfl
  | true => exact absurd (Nat.le_of_ble_eq_true e) (by omega)
theorem cond_t {α : Type} {b : Bool} (h : b = true) (x y : α) : cond b x y = x := by subst h; rfl
theorem cond_f {α : Type} {b : Bool} (h : b = false) (x y : α) : cond b x y = y := by subst h; rfl
theorem sgO_s {q k : Nat} (h : k < 500000) : sgO q k = k := by
  unfold sgO
  rw [cond_f (ble_no (by omega)), cond_f (ble_no (by omega))]
theorem sgO_y (q j : Nat) (h : j < 100000) : sgO q (500000 + j) = 1000 + 20 * q + j := by
  unfold sgO
  rw [cond_f (ble_no (by omega)), cond_t (Nat.ble_eq_true_of_le (by omega)), Nat.add_sub_cancel_left]
theorem sgO_d (q j : Nat) : sgO q (600000 + j) = 1000 + 20 * q + 10 + j := by
  unfold sgO
  rw [cond_t (Nat.ble_eq_true_of_le (by omega)), Nat.add_sub_cancel_left]
theorem sgI_o {q k : Nat} (h : k < 1000 + 20 * q ∨ 1000 + 20 * q + 20 ≤ k) : sgI q k = k := by
  unfold sgI
  cases e : Nat.ble k 999 with
  | true => rfl
  | false =>
    show (if k < 1000 + 20 * q then k else _) = k
    rcases h with h | h
    · rw [if_pos h]
    · rw [if_neg (by omega), if_neg (by omega), if_neg (by omega)]
theorem sgI_y (q j : Nat) (h : j < 10) : sgI q (1000 + 20 * q + j) = 500000 + j := by
  unfold sgI
  rw [ble_no (show 999 < 1000 + 20 * q + j by omega)]
  show (if 1000 + 20 * q + j < 1000 + 20 * q then _ else _) = _
  rw [if_neg (by omega), if_pos (by omega)]
  omega
theorem sgI_d (q j : Nat) (h : j < 10) : sgI q (1000 + 20 * q + 10 + j) = 600000 + j := by
  unfold sgI
  rw [ble_no (show 999 < 1000 + 20 * q + 10 + j by omega)]
  show (if 1000 + 20 * q + 10 + j < 1000 + 20 * q then _ else _) = _
  rw [if_neg (by omega), if_neg (by omega), if_pos (by omega)]
  omega
/-- a slot renamed -/
theorem wS_map {σ : Nat → Nat} {y d y' d' : Nat} (x : QT) (hy : ∀ j, j < 10 → σ (y + j) = y' + j) (hd : ∀ j, j < 2 → σ (d + j) = d' + j) : (wS y d x).map (xrn σ) = wS y' d' x := by
  have y0 : σ y = y' := hy 0 (by omega)
  have d0 : σ d = d' := hd 0 (by omega)
  unfold wS
  simp only [List.map_cons, List.map_nil, xrn_mk, xre, xca, xcv, y0, d0, hy 1 (by omega), hy 2 (by omega), hy 3 (by omega), hy 4 (by omega), hy 5 (by omega), hy 6 (by omega), hy 7 (by omega), hy 8 (by omega), hy 9 (by omega), hd 1 (by omega)]
theorem wS_lab {σ : Nat → Nat} {y d : Nat} (x : QT) : (wS y d x).map (fun x => σ x.1) = [σ y, σ (y + 1), σ (y + 2), σ (y + 3), σ (y + 4), σ (y + 5), σ (y + 6), σ (y + 7), σ (y + 8), σ (y + 9), σ d, σ (d + 1)] := rfl
theorem wQ_mem (Q : Nat → QT) {q : Nat} : ∀ {i : Nat}, q < i → ∀ x, x ∈ wS (1000 + 20 * q) (1000 + 20 * q + 10) (Q q) → x ∈ wQ Q i
  | 0, h, x, hx => absurd h (by omega)
  | i + 1, h, x, hx => by
    show x ∈ wQ Q i ++ _
    by_cases e : q = i
    · subst e
      exact List.mem_append_right _ hx
    · exact List.mem_append_left _ (wQ_mem Q (by omega) x hx)
/-- what is in the slots -/
theorem wQ_in (Q : Nat → QT) : ∀ {i : Nat} {x}, x ∈ wQ Q i → ∃ p, p < i ∧ x ∈ wS (1000 + 20 * p) (1000 + 20 * p + 10) (Q p)
  | 0, x, h => absurd h List.not_mem_nil
  | i + 1, x, h => by
    rcases List.mem_append.mp h with h | h
    · obtain ⟨p, h1, h2⟩ := wQ_in Q h
      exact ⟨p, by omega, h2⟩
    · exact ⟨i, by omega, h⟩
theorem wQo_in (Q : Nat → QT) (q : Nat) : ∀ {i : Nat} {x}, x ∈ wQo Q q i → ∃ p, p < i ∧ p ≠ q ∧ x ∈ wS (1000 + 20 * p) (1000 + 20 * p + 10) (Q p)
  | 0, x, h => absurd h List.not_mem_nil
  | i + 1, x, h => by
    unfold wQo at h
    cases e : Nat.beq i q with
    | true =>
      rw [e] at h
      obtain ⟨p, h1, h2⟩ := wQo_in Q q h
      exact ⟨p, by omega, h2⟩
    | false =>
      rw [e] at h
      rcases List.mem_append.mp h with h | h
      · obtain ⟨p, h1, h2⟩ := wQo_in Q q h
        exact ⟨p, by omega, h2⟩
      · exact ⟨i, by omega, (fun z => by rw [z, Nat.beq_refl] at e; cases e), h⟩
theorem wQo_mem (Q : Nat → QT) {p q : Nat} (hpq : p ≠ q) : ∀ {i : Nat}, p < i → ∀ x, x ∈ wS (1000 + 20 * p) (1000 + 20 * p + 10) (Q p) → x ∈ wQo Q q i
  | 0, h, x, hx => absurd h (by omega)
  | i + 1, h, x, hx => by
    unfold wQo
    by_cases e : p = i
    · subst e
      rw [show Nat.beq p q = false from by cases e : Nat.beq p q with | false => rfl | true => exact absurd (Nat.eq_of_beq_eq_true e) hpq]
      exact List.mem_append_right _ hx
    · have ih := wQo_mem Q hpq (show p < i by omega) x hx
      cases Nat.beq i q with
      | true => exact ih
      | false => exact List.mem_append_left _ ih
theorem wS_rng {y d : Nat} {x : QT} {a : Nat × xE} (h : a ∈ wS y d x) : (y ≤ a.1 ∧ a.1 < y + 10) ∨ (d ≤ a.1 ∧ a.1 < d + 2) := by
  unfold wS at h
  simp only [List.mem_cons, List.not_mem_nil, or_false] at h
  rcases h with h | h | h | h | h | h | h | h | h | h | h | h <;> subst h <;> simp only <;> omega
theorem pw_lab {σ : Nat → Nat} {y d y' d' : Nat} (x : QT) (hy : ∀ j, j < 10 → σ (y + j) = y' + j) (hd : ∀ j, j < 2 → σ (d + j) = d' + j) (ap : y' + 10 ≤ d' ∨ d' + 2 ≤ y') : ((wS y d x).map (fun x => σ x.1)).Pairwise (· ≠ ·) := by
  have y0 : σ y = y' := hy 0 (by omega)
  have d0 : σ d = d' := hd 0 (by omega)
  rw [wS_lab, y0, d0, hy 1 (by omega), hy 2 (by omega), hy 3 (by omega), hy 4 (by omega), hy 5 (by omega), hy 6 (by omega), hy 7 (by omega), hy 8 (by omega), hy 9 (by omega), hd 1 (by omega)]
  simp only [List.pairwise_cons, List.mem_cons, List.not_mem_nil, or_false, List.Pairwise.nil, and_true]
  refine ⟨?_, ?_, ?_, ?_, ?_, ?_, ?_, ?_, ?_, ?_, ?_, fun b hb => hb.elim⟩ <;> intro b hb <;> omega

section SLT
variable {I : Nat → Int32} {J : Nat → Int64} {B : Nat → Bool} {A : Nat → Nat → Int32} {M : Nat → Nat → Int64} {Q : Nat → QT} {q : Nat}
theorem fy_O (hq : q < 20) : (fun j => (fyq q j).map (sgO q)) = fyc := funext fun j => by
  unfold fyq
  by_cases e : j = q
  · subst e
    rw [if_pos rfl, fyc_in hq]
    exact congrArg some (sgO_y j 0 (by omega))
  · rw [if_neg e]
    by_cases h : j < 20
    · rw [fyc_in h]
      exact congrArg some (sgO_s (by omega))
    · rw [show fyc j = none from if_neg h]
      rfl
theorem fd_O (hq : q < 20) : (fun j => (fdq q j).map (sgO q)) = fdc := funext fun j => by
  unfold fdq
  by_cases e : j = q
  · subst e
    rw [if_pos rfl, fdc_in hq]
    exact congrArg some (sgO_d j 0)
  · rw [if_neg e]
    by_cases h : j < 20
    · rw [fdc_in h]
      exact congrArg some (sgO_s (by omega))
    · rw [show fdc j = none from if_neg h]
      rfl
theorem fy_I (hq : q < 20) : (fun j => (fyc j).map (sgI q)) = fyq q := funext fun j => by
  unfold fyq
  by_cases e : j = q
  · subst e
    rw [if_pos rfl, fyc_in hq]
    exact congrArg some (sgI_y j 0 (by omega))
  · rw [if_neg e]
    by_cases h : j < 20
    · rw [fyc_in h]
      exact congrArg some (sgI_o (by omega))
    · rw [show fyc j = none from if_neg h]
      rfl
theorem fd_I (hq : q < 20) : (fun j => (fdc j).map (sgI q)) = fdq q := funext fun j => by
  unfold fdq
  by_cases e : j = q
  · subst e
    rw [if_pos rfl, fdc_in hq]
    exact congrArg some (sgI_d j 0 (by omega))
  · rw [if_neg e]
    by_cases h : j < 20
    · rw [fdc_in h]
      exact congrArg some (sgI_o (by omega))
    · rw [show fdc j = none from if_neg h]
      rfl
set_option maxRecDepth 100000 in
theorem wC_O (hq : q < 20) : (wC (fyq q) (fdq q) I J B A M).map (xrn (sgO q)) = wC fyc fdc I J B A M := by
  conv => rhs; rw [← fy_O hq, ← fd_O hq]
  unfold wC
  simp only [List.map_cons, List.map_nil, xrn_mk]
  rfl
set_option maxRecDepth 100000 in
theorem wC_I (hq : q < 20) : (wC fyc fdc I J B A M).map (xrn (sgI q)) = wC (fyq q) (fdq q) I J B A M := by
  conv => rhs; rw [← fy_I hq, ← fd_I hq]
  unfold wC
  simp only [List.map_cons, List.map_nil, xrn_mk]
  rfl
set_option maxRecDepth 100000 in
theorem wR_O : (wR I J B A M).map (xrn (sgO q)) = wR I J B A M := by
  unfold wR
  simp only [List.map_cons, List.map_nil, xrn_mk]
  rfl
set_option maxRecDepth 100000 in
theorem wR_I : (wR I J B A M).map (xrn (sgI q)) = wR I J B A M := by
  unfold wR
  simp only [List.map_cons, List.map_nil, xrn_mk]
  rfl
theorem mem_of_map {σ : Nat → Nat} {C D : xC} (h : C.map (xrn σ) = D) {x : Nat × xE} (hx : x ∈ C) : xrn σ x ∈ D := h ▸ List.mem_map_of_mem hx
/-- labels of the fixed cells -/
def lbC : List Nat := [100, 101, 102, 103, 104, 105, 106, 107, 108, 109, 110, 111, 112, 113, 114, 115, 116, 117, 118, 119, 120, 121, 122, 123, 124, 125, 126, 127, 128, 129, 130, 131, 132, 133, 134, 135, 136, 137, 138, 139, 140, 141, 142, 143, 144, 145, 146, 147, 148, 149, 150, 151, 152, 153, 154, 155, 156, 157, 158, 159, 160, 161, 162, 163, 164, 165, 166, 167, 168, 169, 170, 171, 172, 173, 174, 175, 176, 177, 178]
def lbR : List Nat := [200, 201, 202, 203, 204, 205, 206, 207, 208, 209, 210, 211, 212, 213, 214, 215, 216, 217, 218, 219, 220, 221, 222, 223, 224, 225, 226, 227, 228, 229, 230, 231, 232, 233, 234, 235, 236, 237, 238, 239, 240, 241, 242, 243, 244, 245, 246, 247, 248, 249, 250]
theorem wC_lab (fy fd : Nat → Option Nat) (σ : Nat → Nat) : (wC fy fd I J B A M).map (fun x => σ x.1) = lbC.map σ := rfl
theorem wR_lab (σ : Nat → Nat) : (wR I J B A M).map (fun x => σ x.1) = lbR.map σ := rfl
theorem lb_rng : (∀ a ∈ lbC, 100 ≤ a ∧ a < 180) ∧ (∀ a ∈ lbR, 200 ≤ a ∧ a < 260) := by decide
theorem lb_pw : lbC.Pairwise (· ≠ ·) ∧ lbR.Pairwise (· ≠ ·) := by decide
theorem lb_id {σ : Nat → Nat} (h : ∀ k, k < 1000 → σ k = k) : lbC.map σ = lbC ∧ lbR.map σ = lbR := by
  constructor
  · conv => rhs; rw [← List.map_id lbC]
    exact List.map_congr_left (fun a ha => h a (by have := lb_rng.1 a ha; omega))
  · conv => rhs; rw [← List.map_id lbR]
    exact List.map_congr_left (fun a ha => h a (by have := lb_rng.2 a ha; omega))
theorem pw_all {fy fd : Nat → Option Nat} {σ : Nat → Nat} {D : xC} (h : ∀ k, k < 1000 → σ k = k) (hD : (D.map (fun x => σ x.1)).Pairwise (· ≠ ·)) (hr : ∀ x ∈ D, 1000 ≤ σ x.1) : ((wC fy fd I J B A M ++ (wR I J B A M ++ D)).map (fun x => σ x.1)).Pairwise (· ≠ ·) := by
  rw [List.map_append, List.map_append, wC_lab, wR_lab, (lb_id h).1, (lb_id h).2]
  have dm : ∀ b ∈ D.map (fun x => σ x.1), 1000 ≤ b := fun b hb => by
    obtain ⟨x, hx, rfl⟩ := List.mem_map.mp hb
    exact hr x hx
  refine List.pairwise_append.mpr ⟨lb_pw.1, List.pairwise_append.mpr ⟨lb_pw.2, hD, fun a ha b hb => ?_⟩, fun a ha b hb => ?_⟩
  · have := lb_rng.2 a ha
    have := dm b hb
    omega
  · have := lb_rng.1 a ha
    rcases List.mem_append.mp hb with hb | hb
    · have := lb_rng.2 b hb
      omega
    · have := dm b hb
      omega
/-- where a slot's names go -/
def yI (q p : Nat) : Nat := if p = q then 500000 else 1000 + 20 * p
def dI (q p : Nat) : Nat := if p = q then 600000 else 1000 + 20 * p + 10
theorem sg_y {q p j : Nat} (hj : j < 10) : sgI q (1000 + 20 * p + j) = yI q p + j := by
  unfold yI
  by_cases e : p = q
  · subst e
    rw [if_pos rfl]
    exact sgI_y p j hj
  · rw [if_neg e]
    exact sgI_o (by omega)
theorem sg_d {q p j : Nat} (hj : j < 10) : sgI q (1000 + 20 * p + 10 + j) = dI q p + j := by
  unfold dI
  by_cases e : p = q
  · subst e
    rw [if_pos rfl]
    exact sgI_d p j hj
  · rw [if_neg e]
    exact sgI_o (by omega)
theorem sI_rng {q p : Nat} {x : QT} {a : Nat × xE} (h : a ∈ wS (1000 + 20 * p) (1000 + 20 * p + 10) x) : (yI q p ≤ sgI q a.1 ∧ sgI q a.1 < yI q p + 10) ∨ (dI q p ≤ sgI q a.1 ∧ sgI q a.1 < dI q p + 2) := by
  rcases wS_rng h with ⟨h1, h2⟩ | ⟨h1, h2⟩
  · obtain ⟨j, hj, e⟩ : ∃ j, j < 10 ∧ a.1 = 1000 + 20 * p + j := ⟨a.1 - (1000 + 20 * p), by omega, by omega⟩
    rw [e, sg_y hj]
    exact Or.inl ⟨by omega, by omega⟩
  · obtain ⟨j, hj, e⟩ : ∃ j, j < 2 ∧ a.1 = 1000 + 20 * p + 10 + j := ⟨a.1 - (1000 + 20 * p + 10), by omega, by omega⟩
    rw [e, sg_d (show j < 10 by omega)]
    exact Or.inr ⟨by omega, by omega⟩
theorem pw_I : ∀ i, i ≤ 20 → ((wQ Q i).map (fun x => sgI q x.1)).Pairwise (· ≠ ·)
  | 0, _ => List.Pairwise.nil
  | i + 1, hi => by
    show ((wQ Q i ++ wS (1000 + 20 * i) (1000 + 20 * i + 10) (Q i)).map _).Pairwise _
    rw [List.map_append]
    refine List.pairwise_append.mpr ⟨pw_I i (by omega), pw_lab (y' := yI q i) (d' := dI q i) _ (fun j hj => sg_y hj) (fun j hj => sg_d (by omega)) ?_, fun a ha b hb => ?_⟩
    · unfold yI dI
      split <;> omega
    · obtain ⟨x, hx, rfl⟩ := List.mem_map.mp ha
      obtain ⟨y, hy, rfl⟩ := List.mem_map.mp hb
      obtain ⟨p, hp, hx⟩ := wQ_in Q hx
      have r1 := sI_rng (q := q) hx
      have r2 := sI_rng (q := q) hy
      unfold yI dI at r1 r2
      by_cases e1 : p = q <;> by_cases e2 : i = q
      · omega
      · rw [if_pos e1, if_pos e1] at r1
        rw [if_neg e2, if_neg e2] at r2
        omega
      · rw [if_neg e1, if_neg e1] at r1
        rw [if_pos e2, if_pos e2] at r2
        omega
      · rw [if_neg e1, if_neg e1] at r1
        rw [if_neg e2, if_neg e2] at r2
        omega
theorem pw_Oo : ∀ i, i ≤ 20 → ((wQo Q q i).map (fun x => sgO q x.1)).Pairwise (· ≠ ·)
  | 0, _ => List.Pairwise.nil
  | i + 1, hi => by
    unfold wQo
    cases e : Nat.beq i q with
    | true => exact pw_Oo i (by omega)
    | false =>
      show ((wQo Q q i ++ wS (1000 + 20 * i) (1000 + 20 * i + 10) (Q i)).map _).Pairwise _
      rw [List.map_append]
      refine List.pairwise_append.mpr ⟨pw_Oo i (by omega), pw_lab (y' := 1000 + 20 * i) (d' := 1000 + 20 * i + 10) _ (fun j hj => sgO_s (by omega)) (fun j hj => sgO_s (by omega)) (by omega), fun a ha b hb => ?_⟩
      obtain ⟨x, hx, rfl⟩ := List.mem_map.mp ha
      obtain ⟨y, hy, rfl⟩ := List.mem_map.mp hb
      obtain ⟨p, hp, -, hx⟩ := wQo_in Q q hx
      have r1 := wS_rng hx
      have r2 := wS_rng hy
      rw [sgO_s (by omega), sgO_s (by omega)]
      omega
theorem lset_n {L : xLo} (σ : Nat → Nat) (h0 : ∀ (j : Nat) (v : Value), L[j]? = some (some v) → xcv σ v = v) : ∀ (j : Nat) (v : Value), L[j]? = some (some v) → L[j]? = some (some (xcv σ v)) := fun j v h => by rw [h0 j v h]; exact h
variable {X : nCtx} {k z pc : Nat} {L : xLo} {S : List Value}
/-- names below 1000 alone -/
def nLow (v : Value) : Bool := match v with
  | .ref k => Nat.blt k 1000
  | _ => true
theorem nLow_ok {σ : Nat → Nat} (h : ∀ k, k < 1000 → σ k = k) {v : Value} (hv : nLow v = true) : xcv σ v = v := by
  cases v <;> first | rfl | skip
  rename_i k
  show Value.ref (σ k) = Value.ref k
  rw [h k (by simpa [nLow] using hv)]
theorem sgO_low (k : Nat) (h : k < 1000) : sgO q k = k := sgO_s (by omega)
theorem sgI_low (k : Nat) (h : k < 1000) : sgI q k = k := by
  unfold sgI
  rw [show Nat.ble k 999 = true from Nat.ble_eq_true_of_le (by omega)]
  rfl
theorem low_L (hL : L.all (fun o => match o with | some v => nLow v | none => true) = true) {σ : Nat → Nat} (h : ∀ k, k < 1000 → σ k = k) : ∀ (j : Nat) (v : Value), L[j]? = some (some v) → L[j]? = some (some (xcv σ v)) := lset_n σ (fun j v hv => nLow_ok h (List.all_eq_true.mp hL (some v) (List.mem_of_getElem? hv)))
theorem low_S (hS : S.all nLow = true) {σ : Nat → Nat} (h : ∀ k, k < 1000 → σ k = k) : S = S.map (xcv σ) := by
  conv => lhs; rw [← List.map_id S]
  exact List.map_congr_left (fun v hv => (nLow_ok h (List.all_eq_true.mp hS v hv)).symm)
/-- one slot taken out -/
theorem o_out (hq : q < 20) (hL : L.all (fun o => match o with | some v => nLow v | none => true) = true) (hS : S.all nLow = true) (kk : nR X k z pc L S (wO q (Q q) I J B A M Q)) : nR X k z pc L S (wW I J B A M Q) := by
  refine o_perm2 (sgO q) (fun x hx => ?_) ?_ (sgO_low 0 (by omega)) rfl (low_L hL sgO_low) (low_S hS sgO_low) kk
  · replace hx := (wO_perm q (Q q) I J B A M Q).mem_iff.mp hx
    rcases List.mem_append.mp hx with h | h
    · exact List.mem_append_left _ (mem_of_map (wC_O hq) h)
    · rcases List.mem_append.mp h with h | h
      · exact List.mem_append_right _ (List.mem_append_left _ (mem_of_map wR_O h))
      · refine List.mem_append_right _ (List.mem_append_right _ ?_)
        rcases List.mem_append.mp h with h | h
        · exact wQ_mem Q hq _ (mem_of_map (wS_map _ (fun j hj => sgO_y q j (by omega)) (fun j hj => sgO_d q j)) h)
        · obtain ⟨p, hp, hpq, h⟩ := wQo_in Q q h
          exact wQ_mem Q hp _ (mem_of_map (wS_map _ (fun j hj => sgO_s (by omega)) (fun j hj => sgO_s (by omega))) h)
  · refine (((wO_perm q (Q q) I J B A M Q).map (fun x => sgO q x.1)).pairwise_iff (fun h => Ne.symm h)).mpr ?_
    refine pw_all sgO_low ?_ (fun x hx => ?_)
    · rw [List.map_append]
      refine List.pairwise_append.mpr ⟨pw_lab (y' := 1000 + 20 * q) (d' := 1000 + 20 * q + 10) _ (fun j hj => sgO_y q j (by omega)) (fun j hj => sgO_d q j) (by omega), pw_Oo 20 (Nat.le_refl _), fun a ha b hb => ?_⟩
      obtain ⟨x, hx, rfl⟩ := List.mem_map.mp ha
      obtain ⟨y, hy, rfl⟩ := List.mem_map.mp hb
      obtain ⟨p, hp, hpq, hy⟩ := wQo_in Q q hy
      have r1 := wS_rng (mem_of_map (wS_map (Q q) (fun j hj => sgO_y q j (by omega)) (fun j hj => sgO_d q j)) hx)
      have r2 := wS_rng hy
      have r3 : (1000 + 20 * q ≤ sgO q x.1 ∧ sgO q x.1 < 1000 + 20 * q + 10) ∨ (1000 + 20 * q + 10 ≤ sgO q x.1 ∧ sgO q x.1 < 1000 + 20 * q + 10 + 2) := r1
      rw [sgO_s (show y.1 < 500000 by omega)]
      omega
    · rcases List.mem_append.mp hx with h | h
      · have r1 := wS_rng (mem_of_map (wS_map (Q q) (fun j hj => sgO_y q j (by omega)) (fun j hj => sgO_d q j)) h)
        have r3 : (1000 + 20 * q ≤ sgO q x.1 ∧ sgO q x.1 < 1000 + 20 * q + 10) ∨ (1000 + 20 * q + 10 ≤ sgO q x.1 ∧ sgO q x.1 < 1000 + 20 * q + 10 + 2) := r1
        omega
      · obtain ⟨p, hp, hpq, h⟩ := wQo_in Q q h
        have r2 := wS_rng h
        rw [sgO_s (by omega)]
        omega
/-- and put in -/
theorem o_in (hq : q < 20) (x : QT) (hL : L.all (fun o => match o with | some v => nLow v | none => true) = true) (hS : S.all nLow = true) (kk : nR X k z pc L S (wW I J B A M (wu Q q x))) : nR X k z pc L S (wO q x I J B A M Q) := by
  refine o_perm2 (sgI q) (fun a ha => ?_) ?_ (sgI_low 0 (by omega)) rfl (low_L hL sgI_low) (low_S hS sgI_low) kk
  · refine (wO_perm q x I J B A M Q).mem_iff.mpr ?_
    rcases List.mem_append.mp ha with h | h
    · exact List.mem_append_left _ (mem_of_map (wC_I hq) h)
    · rcases List.mem_append.mp h with h | h
      · exact List.mem_append_right _ (List.mem_append_left _ (mem_of_map wR_I h))
      · refine List.mem_append_right _ (List.mem_append_right _ ?_)
        obtain ⟨p, hp, h⟩ := wQ_in _ h
        by_cases e : p = q
        · subst e
          rw [wu_s] at h
          exact List.mem_append_left _ (mem_of_map (wS_map x (fun j hj => sgI_y p j hj) (fun j hj => sgI_d p j (by omega))) h)
        · rw [wu_n Q x e] at h
          exact List.mem_append_right _ (wQo_mem Q e hp _ (mem_of_map (wS_map _ (fun j hj => sgI_o (by omega)) (fun j hj => sgI_o (by omega))) h))
  · refine pw_all sgI_low (pw_I 20 (Nat.le_refl _)) (fun a ha => ?_)
    obtain ⟨p, hp, h⟩ := wQ_in _ ha
    have r := sI_rng (q := q) h
    unfold yI dI at r
    by_cases e : p = q
    · rw [if_pos e, if_pos e] at r
      omega
    · rw [if_neg e, if_neg e] at r
      omega
end SLT
