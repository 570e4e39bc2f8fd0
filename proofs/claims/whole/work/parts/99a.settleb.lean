section CT
variable {P : NP} {L : List (Nat × Nat)} {un ch sm tq rn cd : Int32} {nmc ps bg lc ln rr co cf cl : Nat → Int32} {du : Bool}
theorem gPx_s (m : Nat) : gset (gPx P m) 6 m (P 5 m) = gPx P (m + 1) := by
  funext a b
  by_cases e : a = 6
  · subst e
    show (if 6 = 6 ∧ b = m then P 5 m else (if b < m then P 5 b else 0)) = if b < m + 1 then P 5 b else 0
    by_cases q : b = m
    · subst q; rw [if_pos ⟨rfl, rfl⟩, if_pos (by omega)]
    · rw [if_neg (fun z => q z.2)]
      by_cases y : b < m
      · rw [if_pos y, if_pos (by omega)]
      · rw [if_neg y, if_neg (by omega)]
  · rw [gset_n _ _ (fun z => e z.1)]
    show (if a = 6 then _ else _) = if a = 6 then _ else _
    rw [if_neg e, if_neg e]
theorem gPx_k (hP : nOkP P L) (I : nInv P L) (m : Nat) : gok (fun _ => true) (gPx P m) := by
  have p4 := hP.2.2.2.1
  refine ⟨fun j hj => ⟨?_, fun _ _ => rfl⟩, fun k hk => ⟨?_, fun _ _ => rfl⟩⟩
  · have := (I.2.1 (j / 4) (j % 4) (by omega)).1
    rw [show 4 * (j / 4) + j % 4 = j by omega] at this
    show (if j < m then P 5 j else 0) ≤ 40
    split <;> omega
  · show gLys P (P 0 3) 7 k ≤ 40
    rw [gLys_o _ (by decide)]; omega
theorem c_set91 (hP : nOkP P L) (I : nInv P L) (hc : cPl P L un ch sm tq rn cd nmc ps bg lc ln rr co cf cl du) {t : Nat} (ht : t < P 0 3) (ag ca cs pl rt sz tr : Nat → Int32) (mk : Int64) (sp : Int32) (th : Int64) (tn : Int32) (K) : ∀ (m k : Nat) (lk : Nat → Int32) (fr : Nat → Int64), k + m = 4 → (∀ j, j < 160 → lk j = bno (gPx P (4 * t + k) 6 j)) → (∀ x, x < 40 → zh (fr x) (fun u => gLk (gPx P (4 * t + k)) u x)) →
    ∃ lk' fr', mX10_settle_91 ln ag ca cs pl rt sz tr mk sp th tn t K m k lk fr = K th mk tn sp sz ag tr ca pl lk' rt cs fr' ∧ (∀ j, j < 160 → lk' j = bno (gPx P (4 * (t + 1)) 6 j)) ∧ ∀ x, x < 40 → zh (fr' x) (fun u => gLk (gPx P (4 * (t + 1))) u x) := by
  have p4 := hP.2.2.2.1
  have h9 := hc.2.2.2.2.2.2.2.2.2.1
  intro m
  induction m with
  | zero =>
    intro k lk fr hk h1 h2
    rw [show 4 * t + k = 4 * (t + 1) by omega] at h1 h2
    exact ⟨lk, fr, rfl, h1, h2⟩
  | succ m ih =>
    intro k lk fr hk h1 h2
    have e4 : nI t * 4 + nI k = nI (4 * t + k) := by rw [show (4 : Int32) = nI 4 from rfl, pk_mul, nI_add, Nat.mul_comm]
    have c40 := (I.2.1 t k (by omega)).1
    have cp := c_point (W := fun _ => true) (g := gPx P (4 * t + k)) (a := t) (k := k) (c := P 5 (4 * t + k)) (lk := lk) (fr := fr) (gPx_k hP I _) (by rw [gPx_s]; exact gPx_k hP I _) (by omega) (by omega) (by omega) h1 h2
    rw [gPx_s] at cp
    obtain ⟨lk1, fr1, a1, a2, a3⟩ := cp
    rw [mX10_settle_91, e4, s_at 96 _ (by omega) (by decide), h9 _ (by omega), a1, xlet_eq]
    simp only [xu_q]
    exact ih (k + 1) lk1 fr1 (by omega) a2 a3
theorem c_set75 (hP : nOkP P L) (I : nInv P L) (hc : cPl P L un ch sm tq rn cd nmc ps bg lc ln rr co cf cl du) (ag ca cs pl rt sz tr : Nat → Int32) (mk : Int64) (sp : Int32) (th : Int64) (tn : Int32) : ∀ (m t : Nat) (lk : Nat → Int32) (fr : Nat → Int64), t + m = 24 → t ≤ P 0 3 → (∀ j, j < 160 → lk j = bno (gPx P (4 * t) 6 j)) → (∀ x, x < 40 → zh (fr x) (fun u => gLk (gPx P (4 * t)) u x)) →
    ∃ lk' fr', mX10_settle_75 tq ln rr m t th mk tn sp sz ag tr ca pl lk rt cs fr = (th, mk, tn, sp, sz, ag, tr, ca, pl, lk', va_cpy rr rt 0 0 8, cs, fr') ∧ (∀ j, j < 160 → lk' j = bno (gPx P (4 * P 0 3) 6 j)) ∧ ∀ x, x < 40 → zh (fr' x) (fun u => gLk (gPx P (4 * P 0 3)) u x) := by
  have p4 := hP.2.2.2.1
  have h3 := hc.2.2.2.1
  intro m
  induction m with
  | zero =>
    intro t lk fr hm ht h1 h2
    have e : t = P 0 3 := by omega
    subst e
    refine ⟨lk, fr, ?_, h1, h2⟩
    rw [mX10_settle_75, ite_self]
    rfl
  | succ m ih =>
    intro t lk fr hm ht h1 h2
    rw [mX10_settle_75, h3]
    by_cases e : t = P 0 3
    · subst e
      rw [if_neg (nI_nlt (by omega) (by omega))]
      exact ⟨lk, fr, rfl, h1, h2⟩
    · rw [if_pos (nI_lt (by omega) (by omega))]
      obtain ⟨lk1, fr1, a1, a2, a3⟩ := c_set91 hP I hc (t := t) (by omega) ag ca cs pl rt sz tr mk sp th tn (fun zf_there_75 zf_marked_75 zf_trains_75 zf_step_75 za_size_75 za_age_75 za_train_75 za_car_75 za_place_75 za_links_75 za_roots_75 za_cars_75 za_from_75 => mX10_settle_75 tq ln rr m (t + 1) zf_there_75 zf_marked_75 zf_trains_75 zf_step_75 za_size_75 za_age_75 za_train_75 za_car_75 za_place_75 za_links_75 za_roots_75 za_cars_75 za_from_75) 4 0 lk fr (by omega) h1 h2
      rw [h3] at a1
      rw [a1]
      have := ih (t + 1) lk1 fr1 (by omega) (by omega) a2 a3
      rw [h3] at this
      exact this
/-- the class's yard behind heap() -/
theorem c_settle (hP : nOkP P L) (I : nInv P L) (hc : cPl P L un ch sm tq rn cd nmc ps bg lc ln rr co cf cl du) (sz ag tr ca pl lk rt cs : Nat → Int32) (fr : Nat → Int64) :
    ∃ (th mk : Int64) (tn sp : Int32) (sz' ag' tr' ca' pl' lk' rt' cs' : Nat → Int32) (fr' : Nat → Int64), mX10_settle sz ag tr ca pl lk rt cs fr un tq ps bg ln rr = (th, mk, tn, sp, sz', ag', tr', ca', pl', lk', rt', cs', fr') ∧ cY (gHp P) sz' ag' tr' ca' pl' lk' rt' cs' fr' th mk tn sp := by
  obtain ⟨sz1, ag1, lk1, rt1, cs1, fr1, e1, Y0⟩ := c_cl0 (P := P) sz ag lk rt cs tr ca pl fr
  obtain ⟨sz2, ag2, tr2, ca2, pl2, cs2, th2, tn2, e2, Y1⟩ := c_set6 hP I hc 24 0 sz1 ag1 tr ca pl lk1 rt1 cs1 fr1 0 0 0 0 (by decide) (Nat.zero_le _) Y0
  obtain ⟨y1, y2, ⟨y3, y4⟩, y5, y6, y7, y8, y9, y10⟩ := Y1
  have z6 : ∀ j, gPx P (4 * 0) 6 j = 0 := fun j => by
    show (if j < 4 * 0 then P 5 j else 0) = 0
    rw [if_neg (by omega)]
  obtain ⟨lk3, fr3, e3, a1, a2⟩ := c_set75 hP I hc ag2 ca2 cs2 pl2 rt1 sz2 tr2 0 0 th2 tn2 24 0 lk1 fr1 (by decide) (Nat.zero_le _) (fun j hj => by rw [z6, y3 j hj, gLys_o _ (by decide)]) (fun x hx => zh_cong (y6 x hx) (fun u hu => gLk_cong (fun j => by rw [z6, gLys_o _ (by decide)]) u x))
  refine ⟨th2, 0, tn2, 0, sz2, ag2, tr2, ca2, pl2, lk3, va_cpy rr rt1 0 0 8, cs2, fr3, ?_, y1, y2, ⟨?_, fun k hk => ?_⟩, y5, fun x hx => ?_, y7, y8, y9, ?_⟩
  · unfold mX10_settle
    rw [e1, xlet_eq]
    simp only [xu_q]
    rw [e2, e3]
  · exact fun j hj => a1 j hj
  · rw [pk_cpy_in (by omega) (by omega)]
    have h10 := hc.2.2.2.2.2.2.2.2.2.2.1 k hk
    rw [show 0 + (k - 0) = k by omega, h10]
    show bno (P 7 k) = bno (if k < 8 then P 7 k else 0)
    rw [if_pos hk]
  · exact zh_cong (a2 x hx) (fun u hu => gLk_cong (fun j => rfl) u x)
  · show (0 : Int32) = nI (gLys P (P 0 3) 8 0)
    rw [gLys_o _ (by decide)]
    rfl
end CT
