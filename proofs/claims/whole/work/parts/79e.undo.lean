section UND
variable {g : GH} {K : GK} {sz ag tr ca pl lk rt cs rows : Nat → Int32} {fr : Nat → Int64} {th mk : Int64} {tn sp cnt : Int32}
/-- the class's undo, when there is what to take back -/
theorem c_undo {q U : Nat} (hq : q < 20) (hU0 : 0 < U) (hU : U ≤ 20) (W : gW g) (Y : cY g sz ag tr ca pl lk rt cs fr th mk tn sp) (hK : cK K cnt rows) (rf : Nat → Int32) (ch : Int32) (x1 x2 : Int64) (x3 x4 : Int32) (n1 n2 n3 n4 n5 n6 n7 n8 : Nat → Int32) (n9 : Nat → Int64) (x5 : Int32) (n0 : Nat → Int32) :
    ∃ sz' ag' tr' ca' pl' lk' rt' cs' fr' rows', mX11_undo ch x1 x2 x3 x4 n1 n2 n3 n4 n5 n6 n7 n8 n9 x5 n0 (nI U) (nI q) rf th mk tn sp sz ag tr ca pl lk rt cs fr cnt rows = (true, ch + 1, th, mk, tn, sp, sz', ag', tr', ca', pl', lk', rt', cs', fr', cnt, rows', nI (U - 1), nI ((q + 19) % 20), rf) ∧ cY g sz' ag' tr' ca' pl' lk' rt' cs' fr' th mk tn sp ∧ cK K cnt rows' := by
  obtain ⟨sz', ag', tr', ca', pl', lk', rt', cs', fr', rows', e, Y', K'⟩ := c_restore hq hU0 hU W Y hK x1 x2 x3 x4 n1 n2 n3 n4 n5 n6 n7 n8 n9 x5 n0
  unfold mX11_undo
  rw [e, xlet_eq]
  simp only [xu_q]
  rw [if_pos trivial]
  exact ⟨sz', ag', tr', ca', pl', lk', rt', cs', fr', rows', rfl, Y', K'⟩
/-- and when there is not -/
theorem c_undo0 (q : Int32) (rf : Nat → Int32) (ch : Int32) (x1 x2 : Int64) (x3 x4 : Int32) (n1 n2 n3 n4 n5 n6 n7 n8 : Nat → Int32) (n9 : Nat → Int64) (x5 : Int32) (n0 : Nat → Int32) : mX11_undo ch x1 x2 x3 x4 n1 n2 n3 n4 n5 n6 n7 n8 n9 x5 n0 0 q rf th mk tn sp sz ag tr ca pl lk rt cs fr cnt rows = (false, ch, x1, x2, x3, x4, n1, n2, n3, n4, n5, n6, n7, n8, n9, x5, n0, 0, q, upd rf 4 (rf 4 + 1)) := by
  unfold mX11_undo mX5_restore
  rw [if_pos rfl, xlet_eq]
  simp only [xu_q]
  rw [if_neg (show ¬ false = true by decide), show (4 : Int32) = nI 4 from rfl, c_refuse (by decide), xlet_eq, xu_q]
theorem r_undo0 (F : Int32) (rf so sz tr ca pl ag mk lk rt km kr : Nat → Int32) : mX12_undo F 0 rf so sz tr ca pl ag mk lk rt km kr = some (false, 0, upd rf 4 (rf 4 + 1), so, sz, tr, ca, pl, ag, mk, lk, rt, km, kr) := by
  unfold mX12_undo
  rw [if_pos rfl, show (4 : Int32) = nI 4 from rfl, r_refuses (by decide), obind, xu_q, if_pos (show (-1 : Int32) < 0 by decide)]
end UND
