section GUE
variable {g : GH} {sz ag tr ca pl lk rt cs code cf cl rows : Nat → Int32} {fr : Nat → Int64} {th mk : Int64} {tn sp un met : Int32} {P : GP} {M : Nat} {R : Nat → Nat}
/-- the class's sizes, of a thing that is there -/
theorem c_sizes (hF : cF code cf cl P) (hU : un = nI P.2.2) (hU2 : P.2.2 ≤ 99) (W : gW g) (h8 : g 8 0 ≤ 999) (hM : gMet M R) (hr : cRow M R met rows) {t : Nat} (ht : t < 40) (hg : 0 < g 0 t) (Y : cY g sz ag tr ca pl lk rt cs fr th mk tn sp) {ch fu' ft fd kn : Int32} {cn : Nat → Int32} (hk : kn = ch → ft = nI t → ∃ D', fd = nI D' ∧ D' ≤ 20 ∧ fu' = nI P.2.2 ∧ gT2 P g t D' (P.2.2 + 1) cn) {k : Int32} (hk1 : ¬ k < -1) (a1 a2 a3 : Int32) (a4 : Bool) (a5 a6 : Int64) (a7 a8 a9 a10 a11 : Int32) (a12 : Bool) (m1 m2 : Int64) (m3 m4 : Int32) (n1 n2 n3 n4 n5 n6 n7 n8 : Nat → Int32) (n9 : Nat → Int64) (top : Int32) (fc sk wa : Nat → Int32) (ab : Nat → Int64) :
    ∃ (D' : Nat) (a1' a2' a3' : Int32) (a4' : Bool) (a5' a6' : Int64) (a7' a8' a9' a10' a11' : Int32) (a12' : Bool) (m1' m2' : Int64) (m3' m4' : Int32) (n1' n2' n3' n4' n5' n6' n7' n8' : Nat → Int32) (n9' : Nat → Int64) (top' : Int32) (fc' sk' wa' : Nat → Int32) (ab' : Nat → Int64) (cn' : Nat → Int32), mX11_sizes (nI t) k ch un code cf cl th mk tn sp sz ag tr ca pl lk rt cs fr a1 a2 a3 a4 a5 a6 a7 a8 a9 a10 a11 a12 m1 m2 m3 m4 n1 n2 n3 n4 n5 n6 n7 n8 n9 top fc sk wa ab met fu' ft fd kn rows cn = (if k = -1 then nI (gLeft P g t M R P.2.2) else nthF (gFits P g t M R) k P.2.2 1 0, a1', a2', a3', a4', a5', a6', a7', a8', a9', a10', a11', a12', m1', m2', m3', m4', n1', n2', n3', n4', n5', n6', n7', n8', n9', top', fc', sk', wa', ab', nI P.2.2, nI t, nI D', ch, cn') ∧ D' ≤ 20 ∧ gT2 P g t D' (P.2.2 + 1) cn' := by
  have hfar : gFar R M ≤ 20 := gFar_le (fun i hi => (hM.2 i hi).1)
  obtain ⟨D', cn', ⟨a1', a2', a3', a4', a5', a6', a7', a8', a9', a10', a11', a12', m1', m2', m3', m4', n1', n2', n3', n4', n5', n6', n7', n8', n9', top', fc', sk', wa', ab'⟩, e, d1, d2, T⟩ := c_look2 hF hU hU2 W h8 ht hg hfar Y hk a1 a2 a3 a4 a5 a6 a7 a8 a9 a10 a11 a12 m1 m2 m3 m4 n1 n2 n3 n4 n5 n6 n7 n8 n9 top fc sk wa ab
  unfold mX11_sizes mX10_isThere
  rw [zh_in Y.2.2.2.2.2.1 ht, if_pos (show gTh g t = true from decide_eq_true hg), if_neg hk1, c_far2 hM hr, e, xlet_eq]
  simp only [xu_q]
  rw [c_left W hg hM hr T hU2 d1, c_nth W hg hM hr T hU2 d1 k]
  refine ⟨D', a1', a2', a3', a4', a5', a6', a7', a8', a9', a10', a11', a12', m1', m2', m3', m4', n1', n2', n3', n4', n5', n6', n7', n8', n9', top', fc', sk', wa', ab', cn', ?_, d2, T⟩
  by_cases q : k = -1
  · rw [if_pos q, if_pos q]
  · rw [if_neg q, if_neg q]
/-- the class's tells, of a thing that is there -/
theorem c_tells (hF : cF code cf cl P) (hU : un = nI P.2.2) (hU2 : P.2.2 ≤ 99) (W : gW g) (h8 : g 8 0 ≤ 999) (hM : gMet M R) (hr : cRow M R met rows) {t : Nat} (ht : t < 40) (hg : 0 < g 0 t) (Y : cY g sz ag tr ca pl lk rt cs fr th mk tn sp) {ch fu' ft fd kn : Int32} {cn : Nat → Int32} (hk : kn = ch → ft = nI t → ∃ D', fd = nI D' ∧ D' ≤ 20 ∧ fu' = nI P.2.2 ∧ gT2 P g t D' (P.2.2 + 1) cn) {w : Nat} (hw : w ≤ 2) (a1 a2 a3 : Int32) (a4 : Bool) (a5 a6 : Int64) (a7 a8 a9 a10 a11 : Int32) (a12 : Bool) (m1 m2 : Int64) (m3 m4 : Int32) (n1 n2 n3 n4 n5 n6 n7 n8 : Nat → Int32) (n9 : Nat → Int64) (top : Int32) (fc sk wa : Nat → Int32) (ab : Nat → Int64) (tel tal : Nat → Int32) :
    ∃ (D' : Nat) (a1' a2' a3' : Int32) (a4' : Bool) (a5' a6' : Int64) (a7' a8' a9' a10' a11' : Int32) (a12' : Bool) (m1' m2' : Int64) (m3' m4' : Int32) (n1' n2' n3' n4' n5' n6' n7' n8' : Nat → Int32) (n9' : Nat → Int64) (top' : Int32) (fc' sk' wa' : Nat → Int32) (ab' : Nat → Int64) (tel' cn' tal' : Nat → Int32), mX11_tells (nI t) (nI w) ch un code cf cl th mk tn sp sz ag tr ca pl lk rt cs fr a1 a2 a3 a4 a5 a6 a7 a8 a9 a10 a11 a12 m1 m2 m3 m4 n1 n2 n3 n4 n5 n6 n7 n8 n9 top fc sk wa ab met fu' ft fd kn tel rows cn tal = (if gLeft P g t M R P.2.2 = 0 then -1 else gTv (gTe P g t M R (3 * gR20 g)) (nI w), a1', a2', a3', a4', a5', a6', a7', a8', a9', a10', a11', a12', m1', m2', m3', m4', n1', n2', n3', n4', n5', n6', n7', n8', n9', top', fc', sk', wa', ab', nI P.2.2, nI t, nI D', ch, tel', cn', tal') ∧ D' ≤ 20 ∧ gT2 P g t D' (P.2.2 + 1) cn' := by
  obtain ⟨D', cn', ⟨a1', a2', a3', a4', a5', a6', a7', a8', a9', a10', a11', a12', m1', m2', m3', m4', n1', n2', n3', n4', n5', n6', n7', n8', n9', top', fc', sk', wa', ab'⟩, e, d1, d2, T⟩ := c_look2 hF hU hU2 W h8 ht hg (Nat.le_refl 20) Y hk a1 a2 a3 a4 a5 a6 a7 a8 a9 a10 a11 a12 m1 m2 m3 m4 n1 n2 n3 n4 n5 n6 n7 n8 n9 top fc sk wa ab
  have eD : D' = 20 := by omega
  subst eD
  obtain ⟨f1, tel1, tal1, e2, hS⟩ := c_tell W h8 hg hM hr T hU2 tel tal
  have v := c_tellV hS hw
  unfold mX11_tells mX10_isThere
  rw [zh_in Y.2.2.2.2.2.1 ht, if_pos (show gTh g t = true from decide_eq_true hg), if_neg (show ¬ nI w < 0 from nI_nlt (b := 0) (by omega) (by omega)), if_neg (show ¬ (2 : Int32) < nI w from nI_nlt (a := 2) (b := w) hw (by decide)), show (20 : Int32) = nI 20 from rfl, e, xlet_eq]
  simp only [xu_q]
  rw [show sp = nI (g 8 0) from Y.2.2.2.2.2.2.2.2, e2, xlet_eq]
  simp only [xu_q]
  rw [← gTe0_v, ← v]
  refine ⟨20, a1', a2', a3', a4', a5', a6', a7', a8', a9', a10', a11', a12', m1', m2', m3', m4', n1', n2', n3', n4', n5', n6', n7', n8', n9', top', fc', sk', wa', ab', tel1, cn', tal1, ?_, d2, T⟩
  by_cases q : f1 = true
  · rw [if_pos q, if_pos q]
  · rw [if_neg q, if_neg q]
end GUE
