section IU
variable {tx : Nat → Nat} {n U b : Nat} {tp ut : Nat → Int32} {g : GH} {K : GK}
/-- the reference reads an image into layer 1 -/
theorem ir_comes (ht : ∀ i, i < n → tp i = nI (tx i)) (hb : ∀ i, i < n → tx i < 256) (hn : n ≤ 1600) (hbk : b < 2) (hU : ut b = nI U) (hU2 : U ≤ 99) {so sz tr ca pl ag mk lk rt km kr : Nat → Int32} (S : rS 0 g K so sz tr ca pl ag mk lk rt km kr) : ∃ so' sz' tr' ca' pl' ag' mk' lk' rt' km' kr', ((iAll tx n U ∧ mX12_comesOn (nI n) (nI b) true tp ut so sz tr ca pl ag mk lk rt km kr = some (true, so', sz', tr', ca', pl', ag', mk', lk', rt', km', kr') ∧ rS 1 (gIm tx) (0, fun _ => 0) so' sz' tr' ca' pl' ag' mk' lk' rt' km' kr') ∨ (¬ iAll tx n U ∧ mX12_comesOn (nI n) (nI b) true tp ut so sz tr ca pl ag mk lk rt km kr = some (false, so', sz', tr', ca', pl', ag', mk', lk', rt', km', kr'))) ∧ rY 1 so sz tr ca pl ag mk lk rt km kr so' sz' tr' ca' pl' ag' mk' lk' rt' km' kr' := by
  unfold mX12_comesOn
  rw [if_pos rfl]
  by_cases h50 : 50 < n
  · rw [if_neg (show ¬ nI n < (51 : Int32) from nI_nlt (b := 51) (by omega) (by omega))]
    have b0 := hb 0 (by omega)
    have b1 := hb 1 (by omega)
    have bn := hb (n - 1) (by omega)
    have ck := ckF_lt (tx := tx) (n - 1)
    have e01 : ((tp (0 : Int32).toNatClampNeg) <<< ((8 : Int32) &&& 31)) ||| (tp (1 : Int32).toNatClampNeg) = nI (256 * tx 0 + tx 1) := by
      rw [show (0 : Int32).toNatClampNeg = 0 from rfl, show (1 : Int32).toNatClampNeg = 1 from rfl, ht 0 (by omega), ht 1 (by omega), sh8 b0 b1]
    rw [e01]
    by_cases hs : 256 * tx 0 + tx 1 ≤ 999
    · rw [if_neg (show ¬ (999 : Int32) < nI (256 * tx 0 + tx 1) from nI_nlt (a := 999) hs (by decide)), show mX12_comesOn_43 (nI n) (nI b) tp ut so sz tr ca pl ag mk lk rt km kr xfuel (239 : Int32) (0 : Int32) = _ from ir_43 (b := b) ht hb hn h50 so sz tr ca pl ag mk lk rt km kr (n - 1) 0 xfuel (by omega) (by unfold xfuel; omega), e01]
      by_cases hc : ckF tx (n - 1) = tx (n - 1)
      · rw [if_pos (show nI (tx (n - 1)) = nI (ckF tx (n - 1)) by rw [hc])]
        obtain ⟨so1, sz1, tr1, ca1, pl1, ag1, mk1, lk1, rt1, km1, kr1, e, S1, -, Y1⟩ := r_copies (to := 1) (fm := 0) (by decide) (by decide) (by decide) S
        rw [show mX12_copies (1 : Int32) (0 : Int32) so sz tr ca pl ag mk lk rt km kr = _ from e, obind]
        simp only [xu_q]
        rw [show (1 : Int32).toNatClampNeg = 1 from rfl, show (10 : Int32) = nI (iP tx 0) from rfl]
        have fr : ∀ sz2 tr2 ca2 pl2 ag2 mk2 lk2 rt2, r1F sz1 tr1 ca1 pl1 ag1 mk1 lk1 sz2 tr2 ca2 pl2 ag2 mk2 lk2 → (∀ i, i < 8 * 1 ∨ 8 * 1 + 8 ≤ i → rt2 i = rt1 i) → rY 1 so sz tr ca pl ag mk lk rt km kr (upd so1 1 (nI (256 * tx 0 + tx 1))) sz2 tr2 ca2 pl2 ag2 mk2 lk2 rt2 (upd km1 1 0) kr1 := fun sz2 tr2 ca2 pl2 ag2 mk2 lk2 rt2 F f u g' K' hu h => rS_fr hu (Y1 u g' K' hu h) (fun i hi => pk_un hi) F.1 F.2.1 F.2.2.1 F.2.2.2.1 F.2.2.2.2.1 F.2.2.2.2.2.1 F.2.2.2.2.2.2 f (fun i hi => pk_un hi) (fun _ _ => rfl)
        rcases ir_126 ht hb hn h50 hbk hU hU2 (upd so1 1 (nI (256 * tx 0 + tx 1))) rt1 (upd km1 1 0) kr1 40 0 sz1 tr1 ca1 pl1 ag1 mk1 lk1 rfl ⟨fun t h => absurd h (Nat.not_lt_zero _), fun t h => absurd h (Nat.not_lt_zero _), fun j h => absurd h (by omega)⟩ with ⟨⟨hend, ok⟩, sz2, tr2, ca2, pl2, ag2, mk2, lk2, e2, I, F⟩ | ⟨no, sz2, tr2, ca2, pl2, ag2, mk2, lk2, e2, F⟩
        · have p40 := iP_le (tx := tx) 40
          have hT : iTh tx n U := ⟨hend, fun j h => by
            rcases ok j (Nat.zero_le _) h with q | q
            · exact Or.inl q
            · exact Or.inr ⟨q.1, q.2.1, q.2.2.2.2.2⟩⟩
          have B := gIm_by hb (by omega) hT
          have hv : ∀ t, t < 40 → iV tx 0 t < 256 := fun t h => iV_lt hb (by omega) hT (by decide) h
          have M : rIm (gIm tx) sz2 tr2 ca2 pl2 := ⟨fun t h => by rw [gIm_v (by decide) h]; exact I.1 t h, fun t h p => by
            rw [gIm_v (by decide) h] at p
            rw [gIm_v (by decide) h, gIm_v (by decide) h, gIm_v (by decide) h]
            obtain ⟨q1, q2, q3, -⟩ := I.2.1 t h p
            exact ⟨q1, q2, q3⟩⟩
          have h40 : ∀ t, t < 40 → 0 < gIm tx 0 t → gIm tx 1 t < 40 ∧ gIm tx 2 t < 40 ∧ gIm tx 3 t < 40 := fun t h p => by
            rw [gIm_v (by decide) h] at p
            have nz : ¬ tx (iP tx t) = 0 := fun z => by rw [iV_0 z] at p; omega
            rw [gIm_v (by decide) h, gIm_v (by decide) h, gIm_v (by decide) h, iV_1 nz, iV_1 nz, iV_1 nz]
            obtain ⟨-, q⟩ := (ok t (Nat.zero_le _) h).resolve_left nz
            exact ⟨q.2.1, q.2.2.1, q.2.2.2.1⟩
          have lb : ∀ j, j < 160 → tx (iP tx (j / 4)) ≠ 0 → tx (iP tx (j / 4) + 6 + j % 4) < 256 := fun j hj z => by
            obtain ⟨q, -⟩ := (ok (j / 4) (Nat.zero_le _) (by omega)).resolve_left z
            exact hb _ (by omega)
          rw [e2]
          obtain ⟨rt2, f2, r⟩ := ir_196 (b := b) (ut := ut) ht hb hn h50 sz2 tr2 ca2 pl2 ag2 mk2 lk2 (upd so1 1 (nI (256 * tx 0 + tx 1))) (upd km1 1 0) kr1 I hv 8 0 rt1 rfl (fun j h => absurd h (Nat.not_lt_zero _))
          refine ⟨upd so1 1 (nI (256 * tx 0 + tx 1)), sz2, tr2, ca2, pl2, ag2, mk2, lk2, rt2, upd km1 1 0, kr1, ?_, fr sz2 tr2 ca2 pl2 ag2 mk2 lk2 rt2 F f2⟩
          rcases r with ⟨r1, r2, r3⟩ | ⟨r1, r3⟩
          · rw [r3]
            rcases ri_order B M hbk hU hU2 with ⟨o, eo⟩ | ⟨o, eo⟩
            · rcases ir_269 (b := b) (ut := ut) sz2 tr2 ca2 pl2 ag2 mk2 lk2 (upd so1 1 (nI (256 * tx 0 + tx 1))) rt2 (upd km1 1 0) kr1 I hv lb eo 160 0 rfl with ⟨l, el⟩ | ⟨l, el⟩
              · obtain ⟨O, un⟩ := ord_iff.mp ⟨h40, o⟩
                refine Or.inl ⟨⟨⟨h50, by omega, hc, hs⟩, hT, ⟨fun j h => r1 j (Nat.zero_le _) h, fun j h => l j (Nat.zero_le _) h⟩, O, un⟩, el, fun st sT hst => ⟨fun t h => ⟨M.1 t h, hst t h⟩, fun t h p => ?_, fun t h e9 => ?_, fun j hj => ?_, fun k hk => ?_⟩, ⟨pk_us, Nat.zero_le _, fun i hi => absurd hi (Nat.not_lt_zero _)⟩, ?_⟩
                · rw [gIm_v (by decide) h] at p
                  rw [gIm_v (by decide) h, gIm_v (by decide) h, gIm_v (by decide) h, gIm_v (by decide) h, gIm_v (by decide) h]
                  exact I.2.1 t h p
                · have z9 : gIm tx 9 t = 0 := by
                    unfold gIm; rw [if_neg (by decide), if_neg (by decide), if_neg (by decide), if_neg (fun q => absurd q.1 (by decide))]
                  rw [z9] at e9
                  exact absurd e9 (by decide)
                · rw [gIm_6 hj]; exact I.2.2 j hj
                · rw [gIm_7 hk]; exact r2 k hk
                · rw [gIm_8]; exact pk_us
              · exact Or.inr ⟨fun q => l (fun j _ h => q.2.2.1.2 j h), el⟩
            · have bad : ¬ iAll tx n U := fun q => o (ord_iff.mpr ⟨q.2.2.2.1, q.2.2.2.2⟩).2
              rcases ir_269 (b := b) (ut := ut) sz2 tr2 ca2 pl2 ag2 mk2 lk2 (upd so1 1 (nI (256 * tx 0 + tx 1))) rt2 (upd km1 1 0) kr1 I hv lb eo 160 0 rfl with ⟨l, el⟩ | ⟨l, el⟩
              · exact Or.inr ⟨bad, el⟩
              · exact Or.inr ⟨bad, el⟩
          · exact Or.inr ⟨fun q => r1 (fun j _ h => q.2.2.1.1 j h), r3⟩
        · rw [e2]
          refine ⟨upd so1 1 (nI (256 * tx 0 + tx 1)), sz2, tr2, ca2, pl2, ag2, mk2, lk2, rt1, upd km1 1 0, kr1, Or.inr ⟨fun q => no ⟨q.2.1.1, fun j _ h => ?_⟩, rfl⟩, fr sz2 tr2 ca2 pl2 ag2 mk2 lk2 rt1 F (fun _ _ => rfl)⟩
          rcases q.2.1.2 j h with z | z
          · exact Or.inl z
          · by_cases nz : tx (iP tx j) = 0
            · exact Or.inl nz
            · have o := ord_40 q.2.2.2.1 h (by rw [gIm_v (by decide) h, iV_1 nz]; show 0 < tx (iP tx j); omega)
              rw [gIm_v (by decide) h, gIm_v (by decide) h, gIm_v (by decide) h, iV_1 nz, iV_1 nz, iV_1 nz] at o
              exact Or.inr ⟨z.1, z.2.1, o.1, o.2.1, o.2.2, z.2.2⟩
      · rw [if_neg (fun q => hc ((nI_eq (by omega) (by omega)).mp q).symm)]
        exact ⟨so, sz, tr, ca, pl, ag, mk, lk, rt, km, kr, Or.inr ⟨fun q => hc q.1.2.2.1, rfl⟩, fun _ _ _ _ h => h⟩
    · rw [if_pos (show (999 : Int32) < nI (256 * tx 0 + tx 1) from nI_lt (a := 999) (by omega) (by omega))]
      exact ⟨so, sz, tr, ca, pl, ag, mk, lk, rt, km, kr, Or.inr ⟨fun q => hs q.1.2.2.2, rfl⟩, fun _ _ _ _ h => h⟩
  · rw [if_pos (show nI n < (51 : Int32) from nI_lt (b := 51) (by omega) (by decide))]
    exact ⟨so, sz, tr, ca, pl, ag, mk, lk, rt, km, kr, Or.inr ⟨fun q => h50 q.1.1, rfl⟩, fun _ _ _ _ h => h⟩
end IU
