section OLK
variable {g : GH} {sz ag tr ca pl lk rt cs code cf cl : Nat → Int32} {fr : Nat → Int64} {th mk : Int64} {tn sp un : Int32} {P : GP}
/-- the class's falls, of a thing that is there -/
theorem c_falls (hF : cF code cf cl P) (hU : un = nI P.2.2) (hU2 : P.2.2 < 1000) (W : gW g) (h8 : g 8 0 ≤ 999) (Y : cY g sz ag tr ca pl lk rt cs fr th mk tn sp) {ch kn clA re : Int32} {cn fa : Nat → Int32} (hk : kn = ch → clA = gCl0 P g (gR g) ∧ re = nI (gR g) ∧ oT P g (gR g) cn fa) {t : Nat} (ht : t < 40) (h0 : 0 < g 0 t) (a1 a2 a3 : Int32) (a4 : Bool) (a5 a6 : Int64) (a7 a8 a9 a10 a11 : Int32) (a12 : Bool) (m1 m2 : Int64) (m3 m4 : Int32) (n1 n2 n3 n4 n5 n6 n7 n8 : Nat → Int32) (n9 : Nat → Int64) (top : Int32) (fc sk wa : Nat → Int32) (ab : Nat → Int64) :
    ∃ (a1' a2' a3' : Int32) (a4' : Bool) (a5' a6' : Int64) (a7' a8' a9' a10' a11' : Int32) (a12' : Bool) (m1' m2' : Int64) (m3' m4' : Int32) (n1' n2' n3' n4' n5' n6' n7' n8' : Nat → Int32) (n9' : Nat → Int64) (top' : Int32) (fc' sk' wa' : Nat → Int32) (ab' : Nat → Int64) (cn' fa' : Nat → Int32), mX11_falls (nI t) ch un code cf cl th mk tn sp sz ag tr ca pl lk rt cs fr a1 a2 a3 a4 a5 a6 a7 a8 a9 a10 a11 a12 m1 m2 m3 m4 n1 n2 n3 n4 n5 n6 n7 n8 n9 top fc sk wa ab clA re kn cn fa = (bnz (gFl P g t (gR g)), a1', a2', a3', a4', a5', a6', a7', a8', a9', a10', a11', a12', m1', m2', m3', m4', n1', n2', n3', n4', n5', n6', n7', n8', n9', top', fc', sk', wa', ab', gCl0 P g (gR g), nI (gR g), ch, cn', fa') ∧ oT P g (gR g) cn' fa' := by
  obtain ⟨cn', fa', ⟨a1', a2', a3', a4', a5', a6', a7', a8', a9', a10', a11', a12', m1', m2', m3', m4', n1', n2', n3', n4', n5', n6', n7', n8', n9', top', fc', sk', wa', ab'⟩, e, O⟩ := c_look hF hU hU2 W h8 Y hk a1 a2 a3 a4 a5 a6 a7 a8 a9 a10 a11 a12 m1 m2 m3 m4 n1 n2 n3 n4 n5 n6 n7 n8 n9 top fc sk wa ab
  unfold mX11_falls mX10_isThere
  rw [zh_in Y.2.2.2.2.2.1 ht, if_pos (show gTh g t = true from decide_eq_true h0), e, xlet_eq]
  simp only [xu_q]
  rw [s_at 40 t ht (by decide), O.2 t ht h0]
  exact ⟨_, _, _, _, _, _, _, _, _, _, _, _, _, _, _, _, _, _, _, _, _, _, _, _, _, _, _, _, _, _, cn', fa', rfl, O⟩
/-- the class's clean -/
theorem c_clean (hF : cF code cf cl P) (hU : un = nI P.2.2) (hU2 : P.2.2 < 1000) (W : gW g) (h8 : g 8 0 ≤ 999) (Y : cY g sz ag tr ca pl lk rt cs fr th mk tn sp) {ch kn clA re : Int32} {cn fa : Nat → Int32} (hk : kn = ch → clA = gCl0 P g (gR g) ∧ re = nI (gR g) ∧ oT P g (gR g) cn fa) (a1 a2 a3 : Int32) (a4 : Bool) (a5 a6 : Int64) (a7 a8 a9 a10 a11 : Int32) (a12 : Bool) (m1 m2 : Int64) (m3 m4 : Int32) (n1 n2 n3 n4 n5 n6 n7 n8 : Nat → Int32) (n9 : Nat → Int64) (top : Int32) (fc sk wa : Nat → Int32) (ab : Nat → Int64) :
    ∃ (a1' a2' a3' : Int32) (a4' : Bool) (a5' a6' : Int64) (a7' a8' a9' a10' a11' : Int32) (a12' : Bool) (m1' m2' : Int64) (m3' m4' : Int32) (n1' n2' n3' n4' n5' n6' n7' n8' : Nat → Int32) (n9' : Nat → Int64) (top' : Int32) (fc' sk' wa' : Nat → Int32) (ab' : Nat → Int64) (cn' fa' : Nat → Int32), mX11_clean ch un code cf cl th mk tn sp sz ag tr ca pl lk rt cs fr a1 a2 a3 a4 a5 a6 a7 a8 a9 a10 a11 a12 m1 m2 m3 m4 n1 n2 n3 n4 n5 n6 n7 n8 n9 top fc sk wa ab clA re kn cn fa = (gCl0 P g (gR g), a1', a2', a3', a4', a5', a6', a7', a8', a9', a10', a11', a12', m1', m2', m3', m4', n1', n2', n3', n4', n5', n6', n7', n8', n9', top', fc', sk', wa', ab', gCl0 P g (gR g), nI (gR g), ch, cn', fa') ∧ oT P g (gR g) cn' fa' := by
  obtain ⟨cn', fa', ⟨a1', a2', a3', a4', a5', a6', a7', a8', a9', a10', a11', a12', m1', m2', m3', m4', n1', n2', n3', n4', n5', n6', n7', n8', n9', top', fc', sk', wa', ab'⟩, e, O⟩ := c_look hF hU hU2 W h8 Y hk a1 a2 a3 a4 a5 a6 a7 a8 a9 a10 a11 a12 m1 m2 m3 m4 n1 n2 n3 n4 n5 n6 n7 n8 n9 top fc sk wa ab
  unfold mX11_clean
  rw [e, xlet_eq]
  simp only [xu_q]
  exact ⟨_, _, _, _, _, _, _, _, _, _, _, _, _, _, _, _, _, _, _, _, _, _, _, _, _, _, _, _, _, _, cn', fa', rfl, O⟩
end OLK
