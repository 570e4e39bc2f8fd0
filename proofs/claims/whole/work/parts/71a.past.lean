section PA
variable {F U : Nat}
theorem r_slot (hF : F < 1000) {k : Nat} (hk : k < 1000) : mX12_slot (nI k) (nI F) = nI (2 + (F + k) % 20) := by
  unfold mX12_slot
  rw [nI_add, show nI (F + k) - nI (F + k) / 20 * 20 = nI ((F + k) % 20) from pk_rem (d := 20) (by omega) (by decide) (by decide), show (2 : Int32) = nI 2 from rfl, nI_add]
def pF (F U : Nat) : Nat := if U = 20 then (F + 1) % 20 else F
def pU (U : Nat) : Nat := if U = 20 then 20 else U + 1
/-- the reference keeps what was -/
theorem r_keeps (hF : F < 20) (hU : U ≤ 20) {g : GH} {K : GK} {so sz tr ca pl ag mk lk rt km kr : Nat → Int32} (S : rS 0 g K so sz tr ca pl ag mk lk rt km kr) :
    ∃ so' sz' tr' ca' pl' ag' mk' lk' rt' km' kr', mX12_keeps (nI F) (nI U) so sz tr ca pl ag mk lk rt km kr = some (nI (pF F U), nI (pU U), so', sz', tr', ca', pl', ag', mk', lk', rt', km', kr') ∧ rS (2 + (F + U) % 20) g K so' sz' tr' ca' pl' ag' mk' lk' rt' km' kr' ∧ rY (2 + (F + U) % 20) so sz tr ca pl ag mk lk rt km kr so' sz' tr' ca' pl' ag' mk' lk' rt' km' kr' := by
  obtain ⟨so', sz', tr', ca', pl', ag', mk', lk', rt', km', kr', e, S', -, Y⟩ := r_copies (to := 2 + (F + U) % 20) (fm := 0) (by omega) (by decide) (by omega) S
  refine ⟨so', sz', tr', ca', pl', ag', mk', lk', rt', km', kr', ?_, S', Y⟩
  unfold mX12_keeps mX12_keeps_32 pF pU
  by_cases h : U = 20
  · subst h
    rw [if_pos (show nI 20 = 20 from rfl), if_pos rfl, if_pos rfl, nI_1, show nI (F + 1) - nI (F + 1) / 20 * 20 = nI ((F + 1) % 20) from pk_rem (d := 20) (by omega) (by decide) (by decide), show nI 20 - 1 = nI 19 from rfl, r_slot (by omega) (by omega), show ((F + 1) % 20 + 19) % 20 = (F + 20) % 20 by omega]
    have e : mX12_copies (nI (2 + (F + 20) % 20)) (0 : Int32) so sz tr ca pl ag mk lk rt km kr = _ := e
    rw [e, obind]
    simp only [xu_q]
    rfl
  · have : ¬ nI U = 20 := fun q => h ((nI_eq (a := U) (b := 20) (by omega) (by decide)).mp q)
    rw [if_neg this, if_neg h, if_neg h, r_slot (by omega) (by omega)]
    have e : mX12_copies (nI (2 + (F + U) % 20)) (0 : Int32) so sz tr ca pl ag mk lk rt km kr = _ := e
    rw [e, obind]
    simp only [xu_q]
    rw [nI_1]
/-- the reference takes it back -/
theorem r_undo (hF : F < 20) (hU0 : 0 < U) (hU : U ≤ 20) {g : GH} {K : GK} {so sz tr ca pl ag mk lk rt km kr : Nat → Int32} (S : rS (2 + (F + U - 1) % 20) g K so sz tr ca pl ag mk lk rt km kr) (rf : Nat → Int32) :
    ∃ so' sz' tr' ca' pl' ag' mk' lk' rt' km' kr', mX12_undo (nI F) (nI U) rf so sz tr ca pl ag mk lk rt km kr = some (true, nI (U - 1), rf, so', sz', tr', ca', pl', ag', mk', lk', rt', km', kr') ∧ rS 0 g K so' sz' tr' ca' pl' ag' mk' lk' rt' km' kr' ∧ rY 0 so sz tr ca pl ag mk lk rt km kr so' sz' tr' ca' pl' ag' mk' lk' rt' km' kr' := by
  obtain ⟨so', sz', tr', ca', pl', ag', mk', lk', rt', km', kr', e, S', -, Y⟩ := r_copies (to := 0) (fm := 2 + (F + U - 1) % 20) (by decide) (by omega) (by omega) S
  refine ⟨so', sz', tr', ca', pl', ag', mk', lk', rt', km', kr', ?_, S', Y⟩
  unfold mX12_undo
  rw [if_neg (fun q => by have := (nI0 (n := U) (by omega)).mp q; omega), show nI U - 1 = nI (U - 1) from pk_sub (b := 1) (by omega), r_slot (by omega) (by omega), show F + (U - 1) = F + U - 1 by omega]
  have e : mX12_copies (0 : Int32) (nI (2 + (F + U - 1) % 20)) so sz tr ca pl ag mk lk rt km kr = _ := e
  rw [e, obind]
  simp only [xu_q]
abbrev PT : Type := Int32 × Int32 × Int64 × Int64 × Int32 × Int32 × (Nat → Int32) × (Nat → Int32) × (Nat → Int32) × (Nat → Int32) × (Nat → Int32) × (Nat → Int32) × (Nat → Int32) × (Nat → Int32) × (Nat → Int64) × Int32 × (Nat → Int32)
section PC
variable {g : GH} {K : GK} {sz ag tr ca pl lk rt cs rows : Nat → Int32} {fr : Nat → Int64} {th mk : Int64} {tn sp cnt : Int32}
/-- the class keeps what was -/
theorem c_save {q : Nat} (hq : q < 20) (hU : U ≤ 20) (W : gW g) (Y : cY g sz ag tr ca pl lk rt cs fr th mk tn sp) (hK : cK K cnt rows) (x1 x2 : Int64) (x3 x4 : Int32) (n1 n2 n3 n4 n5 n6 n7 n8 : Nat → Int32) (n9 : Nat → Int64) (x5 : Int32) (n0 : Nat → Int32) :
    ∃ sz' ag' tr' ca' pl' lk' rt' cs' fr' rows', mX5_save (nI U) (nI q) th mk tn sp sz ag tr ca pl lk rt cs fr cnt rows x1 x2 x3 x4 n1 n2 n3 n4 n5 n6 n7 n8 n9 x5 n0 = ((nI (pU U), nI ((q + 1) % 20), th, mk, tn, sp, sz', ag', tr', ca', pl', lk', rt', cs', fr', cnt, rows') : Int32 × Int32 × Int64 × Int64 × Int32 × Int32 × (Nat → Int32) × (Nat → Int32) × (Nat → Int32) × (Nat → Int32) × (Nat → Int32) × (Nat → Int32) × (Nat → Int32) × (Nat → Int32) × (Nat → Int64) × Int32 × (Nat → Int32)) ∧
      cY g sz' ag' tr' ca' pl' lk' rt' cs' fr' th mk tn sp ∧ cK K cnt rows' := by
  obtain ⟨sz', ag', tr', ca', pl', lk', rt', cs', fr', e, Y'⟩ := cY_copy W Y n1 n2 n3 n4 n5 n6 n7 n8 n9
  obtain ⟨rows', e2, K'⟩ := cK_copy hK n0
  refine ⟨sz', ag', tr', ca', pl', lk', rt', cs', fr', rows', ?_, Y', K'⟩
  unfold mX5_save pU
  have hr : nI (q + 1) - nI (q + 1) / 20 * 20 = nI ((q + 1) % 20) := pk_rem (d := 20) (by omega) (by decide) (by decide)
  rw [if_neg (show ¬ nI q < 0 from nI_nlt (a := q) (b := 0) (by omega) (by omega)), if_pos (show nI q < 20 from nI_lt (b := 20) hq (by decide)), e, xlet_eq]
  simp only [xu_q]
  rw [e2, xlet_eq, xu_q, nI_1 q, hr]
  by_cases h : U = 20
  · subst h
    rw [if_neg (show ¬ nI 20 < 20 by decide), if_pos rfl, Int32.add_zero]
  · rw [if_pos (show nI U < 20 from nI_lt (b := 20) (by omega) (by decide)), if_neg h, nI_1]
/-- the class takes it back -/
theorem c_restore {q : Nat} (hq : q < 20) (hU0 : 0 < U) (hU : U ≤ 20) (W : gW g) (Y : cY g sz ag tr ca pl lk rt cs fr th mk tn sp) (hK : cK K cnt rows) (x1 x2 : Int64) (x3 x4 : Int32) (n1 n2 n3 n4 n5 n6 n7 n8 : Nat → Int32) (n9 : Nat → Int64) (x5 : Int32) (n0 : Nat → Int32) :
    ∃ sz' ag' tr' ca' pl' lk' rt' cs' fr' rows', mX5_restore (nI U) (nI q) x1 x2 x3 x4 n1 n2 n3 n4 n5 n6 n7 n8 n9 x5 n0 th mk tn sp sz ag tr ca pl lk rt cs fr cnt rows = ((true, nI (U - 1), nI ((q + 19) % 20), th, mk, tn, sp, sz', ag', tr', ca', pl', lk', rt', cs', fr', cnt, rows') : Bool × Int32 × Int32 × Int64 × Int64 × Int32 × Int32 × (Nat → Int32) × (Nat → Int32) × (Nat → Int32) × (Nat → Int32) × (Nat → Int32) × (Nat → Int32) × (Nat → Int32) × (Nat → Int32) × (Nat → Int64) × Int32 × (Nat → Int32)) ∧
      cY g sz' ag' tr' ca' pl' lk' rt' cs' fr' th mk tn sp ∧ cK K cnt rows' := by
  obtain ⟨sz', ag', tr', ca', pl', lk', rt', cs', fr', e, Y'⟩ := cY_copy W Y n1 n2 n3 n4 n5 n6 n7 n8 n9
  obtain ⟨rows', e2, K'⟩ := cK_copy hK n0
  refine ⟨sz', ag', tr', ca', pl', lk', rt', cs', fr', rows', ?_, Y', K'⟩
  unfold mX5_restore
  have hs : (nI q + 20) - 1 = nI (q + 19) := by rw [show nI q + 20 = nI (q + 20) from nI_add q 20, show nI (q + 20) - 1 = nI (q + 20 - 1) from pk_sub (b := 1) (by omega)]; rfl
  have hr : nI (q + 19) - nI (q + 19) / 20 * 20 = nI ((q + 19) % 20) := pk_rem (d := 20) (by omega) (by decide) (by decide)
  rw [if_neg (fun x => by have := (nI0 (n := U) (by omega)).mp x; omega), hs, hr, if_neg (show ¬ nI ((q + 19) % 20) < 0 from nI_nlt (b := 0) (by omega) (by omega)), e, xlet_eq]
  simp only [xu_q]
  rw [e2, xlet_eq, xu_q, show nI U - 1 = nI (U - 1) from pk_sub (b := 1) (by omega)]
end PC
end PA
