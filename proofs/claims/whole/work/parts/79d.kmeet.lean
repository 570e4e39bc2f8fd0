/-- meet, on both sides -/
theorem k_meet {B : Nat → Nat} {L : Nat} {tp tp' rf rf' ms mw mn rows : Nat → Int32} {mm met : Int32} (hL : L ≤ 1600) (ht : ∀ i, i < L → tp i = nI (B i)) (ht' : ∀ i, i < L → tp' i = nI (B i)) (hB : ∀ i, i < L → B i < 256) :
    (gMeetOk B L = true → ∃ ms' mw' mn' rows', mX12_meet (nI L) mm tp rf ms mw mn = some (nI (L / 3), 0, nI (L / 3), rf, ms', mw', mn') ∧ mX11_meet (nI L) tp' met rows rf' = some (nI (L / 3), 0, nI (L / 3), rows', rf') ∧ rMet (L / 3) B (nI (L / 3)) ms' mw' mn' ∧ cRow (L / 3) B (nI (L / 3)) rows') ∧
    (gMeetOk B L = false → mX12_meet (nI L) mm tp rf ms mw mn = some (-1, 0, mm, upd rf 5 (rf 5 + 1), ms, mw, mn) ∧ mX11_meet (nI L) tp' met rows rf' = some (-1, 0, met, rows, upd rf' 5 (rf' 5 + 1))) := by
  obtain ⟨a1, a2⟩ := r_meet (mm := mm) (rf := rf) (ms := ms) (mw := mw) (mn := mn) hL ht hB
  obtain ⟨b1, b2⟩ := c_meet (met := met) (rows := rows) hL ht' hB
  constructor
  · intro h
    obtain ⟨ms', mw', mn', e, M⟩ := a1 h
    obtain ⟨rows', e2, R⟩ := b1 h
    refine ⟨ms', mw', mn', rows', e, ?_, M, R⟩
    unfold mX11_meet mX11_takeTape
    rw [xlet_eq, xu_q, e2, obind, xu_q, xu_q, if_pos rfl]
  · intro h
    constructor
    · rw [a2 h]
      unfold mX12_meet_91
      rw [if_pos rfl, show (5 : Int32) = nI 5 from rfl, r_refuses (by decide), obind, xu_q]
    · unfold mX11_meet mX11_takeTape
      rw [xlet_eq, xu_q, b2 h, obind, xu_q, xu_q, if_neg (show ¬ false = true by decide), show (5 : Int32) = nI 5 from rfl, c_refuse (by decide), xlet_eq, xu_q]
