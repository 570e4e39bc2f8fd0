theorem c_nthBit {p : Nat → Bool} {d : Nat} (hd : d < fb_ct p 40) : ∀ k i (m : Int64), i + k = 40 → i ≤ d → zh m (fun u => p u && decide (i ≤ fb_ct p u)) → ∃ t, t < 40 ∧ p t = true ∧ fb_ct p t = d ∧ mX11_nth_5 (nI d) k i m = nI t := by
  have h40 := fb_ct_le p 40
  have low : ∀ i (m : Int64), i < fb_ct p 40 → zh m (fun u => p u && decide (i ≤ fb_ct p u)) → ¬ m = 0 ∧ ∃ t, t < 40 ∧ p t = true ∧ fb_ct p t = i ∧ mX11_lowest m = nI t ∧ zh (m &&& (m - 1)) (fun u => p u && decide (i + 1 ≤ fb_ct p u)) := by
    intro i m hi h
    obtain ⟨s, hs, ps, es⟩ := fb_ct_kth hi
    have ms : (p s && decide (i ≤ fb_ct p s)) = true := by rw [ps, es, decide_eq_true (Nat.le_refl i)]; rfl
    have h0 : ¬ m = 0 := (zh_ne h).mpr ⟨s, hs, ms⟩
    obtain ⟨t, ht, pt, nt, el, hz⟩ := zh_low h h0
    have pt := (Bool.and_eq_true _ _).mp pt
    have it := of_decide_eq_true pt.2
    have ts : t ≤ s := by
      refine Decidable.byContradiction (fun w => ?_)
      have := nt s (by omega)
      rw [ms] at this
      exact absurd this (by decide)
    have et : fb_ct p t = i := by
      have := fb_ct_mono p ts
      omega
    refine ⟨h0, t, ht, pt.1, et, el, zh_cong hz (fun u hu => ?_)⟩
    cases pu : p u with
    | false => simp [pu]
    | true =>
      by_cases w : u = t
      · subst w
        simp [pu, et]
      · have : ¬ fb_ct p u = i := fun q => w (fb_ct_kth_one pu pt.1 (by rw [q, et]))
        by_cases x : i ≤ fb_ct p u
        · simp [pu, w, x, show i + 1 ≤ fb_ct p u by omega]
        · simp [pu, w, x, show ¬ i + 1 ≤ fb_ct p u by omega]
  intro k
  induction k with
  | zero => intro i m hi hid h; omega
  | succ k ih =>
    intro i m hi hid h
    rw [mX11_nth_5]
    by_cases l : i < d
    · obtain ⟨-, t, -, -, -, -, hz⟩ := low i m (by omega) h
      rw [if_pos (nI_lt l (by omega))]
      exact ih (i + 1) _ (by omega) (by omega) hz
    · have : i = d := by omega
      subst this
      obtain ⟨h0, t, ht, pt, et, el, -⟩ := low i m hd h
      rw [if_neg (nI_nlt (Nat.le_refl i) (by omega))]
      unfold mX11_nth_30
      rw [if_neg h0, el]
      exact ⟨t, ht, pt, et, rfl⟩
theorem c_nthOf {p : Nat → Bool} {m : Int64} (h : zh m p) {d : Nat} (hd : d < fb_ct p 40) : ∃ t, t < 40 ∧ p t = true ∧ fb_ct p t = d ∧ mX11_nth m (nI d) = nI t := by
  unfold mX11_nth
  exact c_nthBit hd 40 0 m rfl (Nat.zero_le _) (zh_cong h (fun u _ => by rw [decide_eq_true (Nat.zero_le _), Bool.and_true]))
theorem gW_l {g : GH} (W : gW g) {a k c : Nat} (ha : a < 40) (hk : k < 4) (h0 : 0 < g 0 a) (hc : c ≤ 40) (hcT : ∀ t, c = t + 1 → gTh g t = true) : gW (gset g 6 (4 * a + k) c) := by
  obtain ⟨w1, w2, w3, w4, w5, w6, w7⟩ := W
  have o : ∀ x, x ≠ 6 → ∀ u, gset g 6 (4 * a + k) c x u = g x u := fun x hx u => gset_n _ _ (fun q => hx q.1)
  have eT : ∀ u, gTh (gset g 6 (4 * a + k) c) u = gTh g u := fun u => by unfold gTh; rw [o 0 (by decide)]
  refine ⟨fun t ht => ?_, fun t ht p => ?_, fun t ht p => ?_, fun t ht p => ?_, fun t u ht hu p q => ?_, ⟨fun j hj => ?_, fun r hr => ?_⟩, fun t ht e r hr => ?_⟩
  · rw [o 0 (by decide), o 4 (by decide), o 5 (by decide), o 9 (by decide)]; exact w1 t ht
  · rw [o 0 (by decide)] at p
    simp only [o 0 (by decide), o 1 (by decide)]; exact w2 t ht p
  · rw [o 0 (by decide)] at p
    simp only [o 0 (by decide), o 1 (by decide), o 2 (by decide)]; exact w3 t ht p
  · rw [o 0 (by decide)] at p
    simp only [o 0 (by decide), o 1 (by decide), o 2 (by decide), o 3 (by decide)]; exact w4 t ht p
  · rw [o 0 (by decide)] at p q
    rw [o 1 (by decide), o 1 (by decide), o 2 (by decide), o 2 (by decide), o 3 (by decide), o 3 (by decide)]; exact w5 t u ht hu p q
  · by_cases e : j = 4 * a + k
    · subst e
      rw [gset_s]
      exact ⟨hc, fun t q => by rw [eT]; exact hcT t q⟩
    · rw [gset_n _ _ (fun q => e q.2)]
      exact ⟨(w6.1 j hj).1, fun t q => by rw [eT]; exact (w6.1 j hj).2 t q⟩
  · rw [o 7 (by decide)]
    exact ⟨(w6.2 r hr).1, fun t q => by rw [eT]; exact (w6.2 r hr).2 t q⟩
  · rw [o 0 (by decide)] at e
    rw [gset_n _ _ (fun q => by have q := q.2; have : t = a := by omega
                                subst this; omega)]
    exact w7 t ht e r hr
theorem cY_l {g : GH} {sz ag tr ca pl lk rt cs lk' : Nat → Int32} {fr fr' : Nat → Int64} {th mk : Int64} {tn sp : Int32} {j c : Nat} (Y : cY g sz ag tr ca pl lk rt cs fr th mk tn sp) (hl : ∀ i, i < 160 → lk' i = bno (gset g 6 j c 6 i)) (hf : ∀ t, t < 40 → zh (fr' t) (fun u => gLk (gset g 6 j c) u t)) : cY (gset g 6 j c) sz ag tr ca pl lk' rt cs fr' th mk tn sp := by
  obtain ⟨y1, y2, ⟨y3, y4⟩, y5, y6, y7, y8, y9, y10⟩ := Y
  have o : ∀ x, x ≠ 6 → ∀ u, gset g 6 j c x u = g x u := fun x hx u => gset_n _ _ (fun q => hx q.1)
  have e1 : gTr (gset g 6 j c) = gTr g := gTr_cong (fun t _ => o 0 (by decide) t) (fun t _ _ => o 1 (by decide) t)
  have e2 : ∀ w, gCa (gset g 6 j c) w = gCa g w := gCa_cong (fun t _ => o 0 (by decide) t) (fun t _ _ => o 1 (by decide) t) (fun t _ _ => o 2 (by decide) t)
  refine ⟨fun t ht => by rw [o 0 (by decide)]; exact y1 t ht, fun t ht p => ?_, ⟨hl, fun r hr => by rw [o 7 (by decide)]; exact y4 r hr⟩, fun w hw => by rw [e2]; exact y5 w (by rw [← e1]; exact hw), hf, zh_cong y7 (fun t _ => by unfold gTh; rw [o 0 (by decide)]), zh_cong y8 (fun t _ => by rw [o 5 (by decide)]), by rw [e1]; exact y9, by rw [o 8 (by decide)]; exact y10⟩
  rw [o 0 (by decide)] at p
  rw [o 4 (by decide), o 1 (by decide), o 2 (by decide), o 3 (by decide)]
  exact y2 t ht p
theorem rS_l {v : Nat} {g : GH} {K : GK} {so sz tr ca pl ag mk lk rt km kr : Nat → Int32} {j c : Nat} (S : rS v g K so sz tr ca pl ag mk lk rt km kr) : rS v (gset g 6 j c) K so sz tr ca pl ag mk (upd lk (160 * v + j) (bno c)) rt km kr := by
  obtain ⟨h1, h2, h3⟩ := S
  have o : ∀ x, x ≠ 6 → ∀ u, gset g 6 j c x u = g x u := fun x hx u => gset_n _ _ (fun q => hx q.1)
  refine ⟨fun st sT hst => ?_, h2, by rw [o 8 (by decide)]; exact h3⟩
  have M := h1 st sT hst
  refine ⟨fun t ht => by rw [o 0 (by decide), o 9 (by decide)]; exact M.1 t ht, fun t ht p => ?_, fun t ht e => ?_, fun i hi => ?_, fun r hr => by rw [o 7 (by decide)]; exact M.2.2.2.2 r hr⟩
  · rw [o 0 (by decide)] at p
    rw [o 1 (by decide), o 2 (by decide), o 3 (by decide), o 4 (by decide), o 5 (by decide)]
    exact M.2.1 t ht p
  · rw [o 9 (by decide)] at e
    rw [o 10 (by decide)]
    exact M.2.2.1 t ht e
  · by_cases w : i = j
    · subst w; rw [pk_us, gset_s]
    · rw [pk_un (by omega), gset_n _ _ (fun q => w q.2)]; exact M.2.2.2.1 i hi
