section OLL
variable {g : GH} {sz ag tr ca pl lk rt cs code cf cl : Nat → Int32} {fr : Nat → Int64} {th mk : Int64} {tn sp un : Int32} {P : GP}
/-- the class's later -/
theorem c_later (hF : cF code cf cl P) (hU : un = nI P.2.2) (hU2 : P.2.2 < 1000) (W : gW g) (h8 : g 8 0 ≤ 999) (Y : cY g sz ag tr ca pl lk rt cs fr th mk tn sp) {ch kn clA re : Int32} {cn fa : Nat → Int32} (hk : kn = ch → clA = gCl0 P g (gR g) ∧ re = nI (gR g) ∧ oT P g (gR g) cn fa) (hu : 0 < P.2.2) {n j : Nat} (hn : n ≤ 60) (hj : j < 5) (a1 a2 a3 : Int32) (a4 : Bool) (a5 a6 : Int64) (a7 a8 a9 a10 a11 : Int32) (a12 : Bool) (m1 m2 : Int64) (m3 m4 : Int32) (n1 n2 n3 n4 n5 n6 n7 n8 : Nat → Int32) (n9 : Nat → Int64) (top : Int32) (fc sk wa : Nat → Int32) (ab : Nat → Int64) :
    ∃ (a1' a2' a3' : Int32) (a4' : Bool) (a5' a6' : Int64) (a7' a8' a9' a10' a11' : Int32) (a12' : Bool) (m1' m2' : Int64) (m3' m4' : Int32) (n1' n2' n3' n4' n5' n6' n7' n8' : Nat → Int32) (n9' : Nat → Int64) (top' : Int32) (fc' sk' wa' : Nat → Int32) (ab' : Nat → Int64) (cn' fa' : Nat → Int32), mX11_later (nI n) (nI j) ch un code cf cl th mk tn sp sz ag tr ca pl lk rt cs fr a1 a2 a3 a4 a5 a6 a7 a8 a9 a10 a11 a12 m1 m2 m3 m4 n1 n2 n3 n4 n5 n6 n7 n8 n9 top fc sk wa ab clA re kn cn fa = (if n ≤ gR g then gLt P g n (nI j) else -1, a1', a2', a3', a4', a5', a6', a7', a8', a9', a10', a11', a12', m1', m2', m3', m4', n1', n2', n3', n4', n5', n6', n7', n8', n9', top', fc', sk', wa', ab', gCl0 P g (gR g), nI (gR g), ch, cn', fa') ∧ oT P g (gR g) cn' fa' := by
  obtain ⟨cn', fa', ⟨a1', a2', a3', a4', a5', a6', a7', a8', a9', a10', a11', a12', m1', m2', m3', m4', n1', n2', n3', n4', n5', n6', n7', n8', n9', top', fc', sk', wa', ab'⟩, e, O⟩ := c_look hF hU hU2 W h8 Y hk a1 a2 a3 a4 a5 a6 a7 a8 a9 a10 a11 a12 m1 m2 m3 m4 n1 n2 n3 n4 n5 n6 n7 n8 n9 top fc sk wa ab
  have hR := gR_le g
  have e5 : nI n * 5 + nI j = nI (5 * n + j) := by rw [show (5 : Int32) = nI 5 from rfl, pk_mul, nI_add, Nat.mul_comm]
  unfold mX11_later mX11_hasHeap
  rw [if_pos (show (0 : Int32) < un by rw [hU]; exact nI_lt (a := 0) hu (by omega)), if_pos rfl, if_neg (show ¬ nI n < 0 from nI_nlt (b := 0) (by omega) (by omega)), if_neg (show ¬ (60 : Int32) < nI n from nI_nlt (a := 60) (b := n) hn (by decide)), if_neg (show ¬ nI j < 0 from nI_nlt (b := 0) (by omega) (by omega)), if_pos (show nI j < 5 from nI_lt (b := 5) hj (by decide)), e, xlet_eq]
  simp only [xu_q]
  refine ⟨a1', a2', a3', a4', a5', a6', a7', a8', a9', a10', a11', a12', m1', m2', m3', m4', n1', n2', n3', n4', n5', n6', n7', n8', n9', top', fc', sk', wa', ab', cn', fa', ?_, O⟩
  by_cases q : n ≤ gR g
  · obtain ⟨o1, o2, o3, o4, o5⟩ := O.1 n q
    rw [if_neg (nI_nlt q (by omega)), if_pos q, e5, s_at 305 _ (by omega) (by decide)]
    have : cn' (5 * n + j) = gLt P g n (nI j) := by
      unfold gLt
      rcases (by omega : j = 0 ∨ j = 1 ∨ j = 2 ∨ j = 3 ∨ j = 4) with rfl | rfl | rfl | rfl | rfl
      · rw [if_pos (show nI 0 = 0 from rfl)]; exact o1
      · rw [if_neg (show ¬ nI 1 = 0 by decide), if_pos (show nI 1 = 1 from rfl)]; exact o2
      · rw [if_neg (show ¬ nI 2 = 0 by decide), if_neg (show ¬ nI 2 = 1 by decide), if_pos (show nI 2 = 2 from rfl)]; exact o3
      · rw [if_neg (show ¬ nI 3 = 0 by decide), if_neg (show ¬ nI 3 = 1 by decide), if_neg (show ¬ nI 3 = 2 by decide), if_pos (show nI 3 = 3 from rfl)]; exact o4
      · rw [if_neg (show ¬ nI 4 = 0 by decide), if_neg (show ¬ nI 4 = 1 by decide), if_neg (show ¬ nI 4 = 2 by decide), if_neg (show ¬ nI 4 = 3 by decide), if_pos (show nI 4 = 4 from rfl)]; exact o5
    rw [this]
  · rw [if_pos (nI_lt (show gR g < n by omega) (by omega)), if_neg q]
end OLL
