section OLO
variable {l : Launch} {X : nCtx} {b Ls : Nat} {xs : Nat → Int32}
theorem vW_up {N : Nat} {I : Nat → Int32} {J : Nat → Int64} {B : Nat → Bool} {A : Nat → Nat → Int32} {M : Nat → Nat → Int64} {Q : Nat → QT} (h : vW N I J B A M Q) : vW (N + 1) I J B A M Q := by
  obtain ⟨n, tx, s, b, U, P, E, g, K, F, un, q, gs, Ks, m, R, mi, T, Fq, Sd, Et, Pl, G, Un, O, Mt, Im⟩ := h
  exact ⟨n, tx, s, b, U, P, E, g, K, F, un, q, gs, Ks, m, R, mi, T, Fq, Sd, Et, Pl, G, Un, vO_up O, Mt, Im⟩
def offL : Array Int := #[151, 214, 237, 250, 273, 296, 329, 362, 395, 418, 451, 494, 517, 530, 563, 586, 609, 632, 655, 678, 691, 724, 757, 780, 803, 836, 879, 912, 925, 948, 981, 994, 1017, 1030]
theorem offL_pos : ∀ off ∈ offL.toList, 0 ≤ (33 : Int) + off := by decide
theorem lw_case {N : Nat} {I : Nat → Int32} {J : Nat → Int64} {B : Nat → Bool} {A : Nat → Nat → Int32} {M : Nat → Nat → Int64} {Q : Nat → QT} (K : oY l code 4 "TrainCollectorLaw" ret room_1 X) (Bs : oScr X b Ls xs) (hv : ∀ j : Nat, j < 6 → vp_in (nI (6 * N) + nI j) Ls) (h : vW N I J B A M Q) (hN : N < 1000) (kk : ∀ I J B A M Q, vW (N + 1) I J B A M Q → nR X 370 59446 1086 [some (.ref 0), some (.ref 100), some (.ref 200), some (.int (nI (6 * N)))] [] (wW I J B A M Q)) {off : Int} {t : Nat} (ht : ((33 : Nat) : Int) + off = (t : Int)) : ∀ j : Nat, j < 34 → offL[j]? = some off → nR X 370 59446 t [some (.ref 0), some (.ref 100), some (.ref 200), some (.int (nI (6 * N)))] [] (wW I J B A M Q)
  | 0, _, ho => by
    have e : off = 151 := (Option.some.inj ho).symm
    subst e
    obtain rfl : t = 184 := by omega
    exact lw_feed K Bs hv h hN kk
  | 1, _, ho => by
    have e : off = 214 := (Option.some.inj ho).symm
    subst e
    obtain rfl : t = 247 := by omega
    exact lw_end K Bs hv h hN kk
  | 2, _, ho => by
    have e : off = 237 := (Option.some.inj ho).symm
    subst e
    obtain rfl : t = 270 := by omega
    exact lw_heap K Bs hv h hN kk
  | 3, _, ho => by
    have e : off = 250 := (Option.some.inj ho).symm
    subst e
    obtain rfl : t = 283 := by omega
    exact lw_fault K Bs hv h hN kk
  | 4, _, ho => by
    have e : off = 273 := (Option.some.inj ho).symm
    subst e
    obtain rfl : t = 306 := by omega
    exact lw_has K Bs hv h hN kk
  | 5, _, ho => by
    have e : off = 296 := (Option.some.inj ho).symm
    subst e
    obtain rfl : t = 329 := by omega
    exact lw_letter K Bs hv h hN kk
  | 6, _, ho => by
    have e : off = 329 := (Option.some.inj ho).symm
    subst e
    obtain rfl : t = 362 := by omega
    exact lw_thing K Bs hv h hN kk
  | 7, _, ho => by
    have e : off = 362 := (Option.some.inj ho).symm
    subst e
    obtain rfl : t = 395 := by omega
    exact lw_link K Bs hv h hN kk
  | 8, _, ho => by
    have e : off = 395 := (Option.some.inj ho).symm
    subst e
    obtain rfl : t = 428 := by omega
    exact lw_root K Bs hv h hN kk
  | 9, _, ho => by
    have e : off = 418 := (Option.some.inj ho).symm
    subst e
    obtain rfl : t = 451 := by omega
    exact lw_train K Bs hv h hN kk
  | 10, _, ho => by
    have e : off = 451 := (Option.some.inj ho).symm
    subst e
    obtain rfl : t = 484 := by omega
    exact lw_car K Bs hv h hN kk
  | 11, _, ho => by
    have e : off = 494 := (Option.some.inj ho).symm
    subst e
    obtain rfl : t = 527 := by omega
    exact lw_falls K Bs hv h hN kk
  | 12, _, ho => by
    have e : off = 517 := (Option.some.inj ho).symm
    subst e
    obtain rfl : t = 550 := by omega
    exact lw_clean K Bs hv h hN kk
  | 13, _, ho => by
    have e : off = 530 := (Option.some.inj ho).symm
    subst e
    obtain rfl : t = 563 := by omega
    exact lw_later K Bs hv h hN kk
  | 14, _, ho => by
    have e : off = 563 := (Option.some.inj ho).symm
    subst e
    obtain rfl : t = 596 := by omega
    exact lw_retains K Bs hv h hN kk
  | 15, _, ho => by
    have e : off = 586 := (Option.some.inj ho).symm
    subst e
    obtain rfl : t = 619 := by omega
    exact lw_holder K Bs hv h hN kk
  | 16, _, ho => by
    have e : off = 609 := (Option.some.inj ho).symm
    subst e
    obtain rfl : t = 642 := by omega
    exact lw_far K Bs hv h hN kk
  | 17, _, ho => by
    have e : off = 632 := (Option.some.inj ho).symm
    subst e
    obtain rfl : t = 665 := by omega
    exact lw_ring K Bs hv h hN kk
  | 18, _, ho => by
    have e : off = 655 := (Option.some.inj ho).symm
    subst e
    obtain rfl : t = 688 := by omega
    exact lw_odds K Bs hv h hN kk
  | 19, _, ho => by
    have e : off = 678 := (Option.some.inj ho).symm
    subst e
    obtain rfl : t = 711 := by omega
    exact lw_meet K Bs hv h hN kk
  | 20, _, ho => by
    have e : off = 691 := (Option.some.inj ho).symm
    subst e
    obtain rfl : t = 724 := by omega
    exact lw_sizes K Bs hv h hN kk
  | 21, _, ho => by
    have e : off = 724 := (Option.some.inj ho).symm
    subst e
    obtain rfl : t = 757 := by omega
    exact lw_tells K Bs hv h hN kk
  | 22, _, ho => by
    have e : off = 757 := (Option.some.inj ho).symm
    subst e
    obtain rfl : t = 790 := by omega
    exact lw_steps K Bs hv h hN kk
  | 23, _, ho => by
    have e : off = 780 := (Option.some.inj ho).symm
    subst e
    obtain rfl : t = 813 := by omega
    exact lw_chance K Bs hv h hN kk
  | 24, _, ho => by
    have e : off = 803 := (Option.some.inj ho).symm
    subst e
    obtain rfl : t = 836 := by omega
    exact lw_make K Bs hv h hN kk
  | 25, _, ho => by
    have e : off = 836 := (Option.some.inj ho).symm
    subst e
    obtain rfl : t = 869 := by omega
    exact lw_set K Bs hv h hN kk
  | 26, _, ho => by
    have e : off = 879 := (Option.some.inj ho).symm
    subst e
    obtain rfl : t = 912 := by omega
    exact lw_aim K Bs hv h hN kk
  | 27, _, ho => by
    have e : off = 912 := (Option.some.inj ho).symm
    subst e
    obtain rfl : t = 945 := by omega
    exact lw_undo K Bs hv h hN kk
  | 28, _, ho => by
    have e : off = 925 := (Option.some.inj ho).symm
    subst e
    obtain rfl : t = 958 := by omega
    exact lw_seed K Bs hv h hN kk
  | 29, _, ho => by
    have e : off = 948 := (Option.some.inj ho).symm
    subst e
    obtain rfl : t = 981 := by omega
    exact lw_kept K Bs hv h hN kk
  | 30, _, ho => by
    have e : off = 981 := (Option.some.inj ho).symm
    subst e
    obtain rfl : t = 1014 := by omega
    exact lw_image K Bs hv h hN kk
  | 31, _, ho => by
    have e : off = 994 := (Option.some.inj ho).symm
    subst e
    obtain rfl : t = 1027 := by omega
    exact lw_octet K Bs hv h hN kk
  | 32, _, ho => by
    have e : off = 1017 := (Option.some.inj ho).symm
    subst e
    obtain rfl : t = 1050 := by omega
    exact lw_on K Bs hv h hN kk
  | 33, _, ho => by
    have e : off = 1030 := (Option.some.inj ho).symm
    subst e
    obtain rfl : t = 1063 := by omega
    exact lw_status K Bs hv h hN kk
  | j + 34, hj, _ => absurd hj (by omega)
theorem lw_body {N : Nat} {I : Nat → Int32} {J : Nat → Int64} {B : Nat → Bool} {A : Nat → Nat → Int32} {M : Nat → Nat → Int64} {Q : Nat → QT} (K : oY l code 4 "TrainCollectorLaw" ret room_1 X) (Bs : oScr X b Ls xs) (hv : ∀ j : Nat, j < 6 → vp_in (nI (6 * N) + nI j) Ls) (h : vW N I J B A M Q) (hN : N < 1000) (kk : ∀ I J B A M Q, vW (N + 1) I J B A M Q → nR X 370 59446 1086 [some (.ref 0), some (.ref 100), some (.ref 200), some (.int (nI (6 * N)))] [] (wW I J B A M Q)) (x : Int32) : nR X 370 59446 33 [some (.ref 0), some (.ref 100), some (.ref 200), some (.int (nI (6 * N)))] [.int x] (wW I J B A M Q) := by
  refine o_sw K dsw_L (fun off t h1 h2 ho ht => ?_) (fun off ho => ?_) (fun h1 h2 => ?_) (td := 1086) rfl (kk _ _ _ _ _ _ (vW_up h))
  · have hj : (x.toInt - 0).toNat < 34 := by omega
    exact lw_case K Bs hv h hN kk ht _ hj ho
  · have ho : offL[(x.toInt - 0).toNat]? = some off := ho
    exact offL_pos off (Array.mem_toList_iff.mpr (Array.mem_of_getElem? ho))
  · have hj : (x.toInt - 0).toNat < 34 := by omega
    have hs : (x.toInt - 0).toNat < offL.size := hj
    exact ⟨offL[(x.toInt - 0).toNat], Array.getElem?_eq_getElem hs⟩
theorem lw_cmp {Ls N : Nat} (hL : Ls ≤ 3072) (h6 : 6 * N ≤ Ls) (h : Ls < 6 * N + 6) : Int32.ofNat Ls - 6 < nI (6 * N) := by
  have e : ∀ r : Nat, r < 6 → Int32.ofNat r - 6 < 0 := by decide
  by_cases z : N = 0
  · subst z
    exact e Ls (by omega)
  · have k : Int32.ofNat Ls - 6 = nI (Ls - 6) := by
      have k2 : nI (Ls - 6) + 6 = nI Ls := by
        rw [show (6 : Int32) = nI 6 from rfl, nI_add]
        congr 1
        omega
      show nI Ls - 6 = _
      rw [← k2]
      exact Int32.add_sub_cancel _ _
    rw [k]
    exact nI_lt (by omega) (by omega)
set_option maxRecDepth 100000 in
theorem lw_loop (K : oY l code 4 "TrainCollectorLaw" ret room_1 X) (Bs : oScr X b Ls xs) (hL : Ls ≤ 3072) (kend : ∀ x I J B A M Q, nR X 370 59446 1092 [some (.ref 0), some (.ref 100), some (.ref 200), some (.int x)] [] (wW I J B A M Q)) : ∀ m N, 6 * N ≤ Ls → Ls < 6 * (N + m) → ∀ I J B A M Q, vW N I J B A M Q → nR X 370 59446 18 [some (.ref 0), some (.ref 100), some (.ref 200), some (.int (nI (6 * N)))] [] (wW I J B A M Q)
  | 0, N, h1, h2, I, J, B, A, M, Q, h => absurd h2 (by omega)
  | m + 1, N, h1, h2, I, J, B, A, M, Q, h => by
    refine o_go K pq_L 2 (pc' := 20) (L' := [some (.ref 0), some (.ref 100), some (.ref 200), some (.int (nI (6 * N)))]) (S' := [.ref 0, .int (nI (6 * N))]) (C' := wW I J B A M Q) rfl trivial ?_
    refine o_slen Bs K pq_L rfl ?_
    refine o_go K pq_L 2 (pc' := 24) (L' := [some (.ref 0), some (.ref 100), some (.ref 200), some (.int (nI (6 * N)))]) (S' := [.int (Int32.ofNat Ls - 6), .int (nI (6 * N))]) (C' := wW I J B A M Q) rfl trivial ?_
    refine o_gt K pq_L rfl (fun _ => kend _ _ _ _ _ _ _) (fun hc => ?_)
    have h3 : 6 * N + 6 ≤ Ls := by
      by_cases z : 6 * N + 6 ≤ Ls
      · exact z
      · exact absurd (lw_cmp hL h1 (by omega)) hc
    have hv : ∀ j : Nat, j < 6 → vp_in (nI (6 * N) + nI j) Ls := fun j hj => by
      rw [nI_add]
      exact vp_in_nI (by omega) (by omega)
    refine o_go K pq_L 2 (pc' := 29) (L' := [some (.ref 0), some (.ref 100), some (.ref 200), some (.int (nI (6 * N)))]) (S' := [.int (nI (6 * N)), .ref 0]) (C' := wW I J B A M Q) rfl trivial ?_
    refine o_sld Bs K pq_L rfl (vp_in_nI (by omega) (by omega)) ?_
    refine o_go K pq_L 2 (pc' := 33) (L' := [some (.ref 0), some (.ref 100), some (.ref 200), some (.int (nI (6 * N)))]) (S' := [.int (xs (nI (6 * N)).toNatClampNeg &&& 63)]) (C' := wW I J B A M Q) rfl trivial ?_
    refine lw_body K Bs hv h (by omega) (fun I J B A M Q h => ?_) _
    refine o_go K pq_L 2 (pc' := 18) (L' := [some (.ref 0), some (.ref 100), some (.ref 200), some (.int (nI (6 * N) + 6))]) (S' := []) (C' := wW I J B A M Q) rfl trivial ?_
    have key := lw_loop K Bs hL kend m (N + 1) (by omega) (by omega) I J B A M Q h
    rw [show nI (6 * (N + 1)) = nI (6 * N) + 6 from (nI_add (6 * N) 6).symm] at key
    exact key
end OLO
