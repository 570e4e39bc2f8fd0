def gNth (p : Nat → Bool) (d : Nat) : Nat → Nat
  | 0 => 0
  | n + 1 => if p n = true ∧ fb_ct p n = d then n else gNth p d n
theorem gNth_is {p : Nat → Bool} {d t : Nat} (pt : p t = true) (e : fb_ct p t = d) : ∀ {n : Nat}, t < n → gNth p d n = t := by
  intro n
  induction n with
  | zero => intro h; omega
  | succ n ih =>
    intro h
    rw [gNth]
    by_cases w : p n = true ∧ fb_ct p n = d
    · rw [if_pos w]
      exact fb_ct_kth_one w.1 pt (w.2.trans e.symm)
    · rw [if_neg w]
      by_cases x : t = n
      · subst x; exact absurd ⟨pt, e⟩ w
      · exact ih (by omega)
/-- how many LIVE -/
def gLv (g : GH) : Nat := fb_ct (gL g) 40
def gWho (g : GH) (d : Nat) : Nat := gNth (gL g) d 40
theorem gWho_is {g : GH} {d : Nat} (h : d < gLv g) : gWho g d < 40 ∧ gL g (gWho g d) = true ∧ fb_ct (gL g) (gWho g d) = d := by
  obtain ⟨t, ht, pt, e⟩ := fb_ct_kth h
  have : gWho g d = t := gNth_is pt e ht
  rw [this]
  exact ⟨ht, pt, e⟩
/-- a link is CHURNED: which, to what -/
def gCj (g : GH) (s : Nat) : Nat := 4 * gWho g (gDw (gLv g) s) + gDw 4 (gSd s)
def gCc (g : GH) (s : Nat) : Nat := gWho g (gDw (gLv g) (gSd (gSd s)))
/-- chance ahead of a STEP: the ghost, the SEED, whether it CHURNED -/
def gChn (H : Nat) (g : GH) (s : Nat) : GH × Nat × Bool :=
  if gDw 100 s < H ∧ 0 < gLv g then (gset g 6 (gCj g (gSd s)) (gCc g (gSd s) + 1), gSd (gSd (gSd (gSd s))), true) else (g, gSd s, false)
section CHU
variable {g : GH} {H s : Nat}
theorem gL_th (W : gW g) {t : Nat} (ht : t < 40) (h : gL g t = true) : 0 < g 0 t := by
  have go : ∀ n, blv (gRt g) (gLk g) n t = true → gTh g t = true := by
    intro n
    induction n with
    | zero => intro q; exact gRt_th W.2.2.2.2.2.1 q
    | succ n ih =>
      intro q
      rcases (blv_succ _ _ n t).mp q with q | ⟨u, hu, -, q⟩
      · exact ih q
      · exact gLk_th W.2.2.2.2.2.1 hu q
  exact of_decide_eq_true (go 40 h)
theorem gW_chn (W : gW g) : gW (gChn H g s).1 ∧ (gChn H g s).1 8 0 = g 8 0 ∧ (gChn H g s).2.1 < 2 ^ 31 := by
  unfold gChn
  by_cases h : gDw 100 s < H ∧ 0 < gLv g
  · rw [if_pos h]
    obtain ⟨a1, a2, a3⟩ := gWho_is (gDw_lt (m := gLv g) (s := gSd s) h.2)
    obtain ⟨b1, b2, b3⟩ := gWho_is (gDw_lt (m := gLv g) (s := gSd (gSd (gSd s))) h.2)
    refine ⟨gW_l W a1 (gDw_lt (by decide)) (gL_th W a1 a2) b1 (fun t e => ?_), gset_n (a := 8) (b := 0) (f := 6) (i := gCj g (gSd s)) g (gCc g (gSd s) + 1) (fun q => absurd q.1 (by decide)), gSd_lt _⟩
    have : t = gCc g (gSd s) := by omega
    rw [this]
    exact decide_eq_true (gL_th W b1 b2)
  · rw [if_neg h]
    exact ⟨W, rfl, gSd_lt _⟩
/-- the class CHURNS -/
theorem c_churn (W : gW g) (hs : s < 2 ^ 31) (hH : H < 1000) {sz ag tr ca pl lk rt cs : Nat → Int32} {fr : Nat → Int64} {th mk : Int64} {tn sp : Int32} (Y : cY g sz ag tr ca pl lk rt cs fr th mk tn sp) :
    ∃ lk' fr', mX11_churnBySeed (nI s) (nI H) th lk rt fr = ((gChn H g s).2.2, nI (gChn H g s).2.1, lk', fr') ∧ cY (gChn H g s).1 sz ag tr ca pl lk' rt cs fr' th mk tn sp := by
  have hL := z_live (gW_N W).2.2 Y.2.2.2.2.2.1 lk rt Y.2.2.1.1 Y.2.2.1.2
  have h40 : gLv g ≤ 40 := fb_ct_le _ 40
  unfold mX11_churnBySeed
  rw [show (100 : Int32) = nI 100 from rfl, c_draw (by decide) (by decide) hs, xlet_eq, xu_q, zh_cnt hL]
  unfold gChn
  have c : (nI (gDw 100 s) < nI H) ↔ gDw 100 s < H := nI_ltI (by have := gDw_lt (m := 100) (s := s) (by decide); omega) (by omega)
  have z : (nI (gLv g) = 0) ↔ gLv g = 0 := nI0 (by omega)
  show ∃ lk' fr', (if nI (gDw 100 s) < nI H then (if nI (gLv g) = 0 then _ else _) else _) = _ ∧ _
  by_cases h : gDw 100 s < H
  · rw [if_pos (c.mpr h)]
    by_cases l : gLv g = 0
    · rw [if_pos (z.mpr l), if_neg (fun q => by omega)]
      exact ⟨lk, fr, rfl, Y⟩
    · have hl : 0 < gLv g := by omega
      have d4 : gDw 4 (gSd (gSd s)) < 4 := gDw_lt (by decide)
      rw [if_neg (fun q => l (z.mp q)), if_pos ⟨h, hl⟩, show fb_ct (gL g) 40 = gLv g from rfl, c_draw hl (by omega) (gSd_lt _), xlet_eq, xu_q, show (4 : Int32) = nI 4 from rfl, c_draw (by decide) (by decide) (gSd_lt _), xlet_eq, xu_q, c_draw hl (by omega) (gSd_lt _), xlet_eq, xu_q]
      obtain ⟨ta, ta1, ta2, ta3, ta4⟩ := c_nthOf hL (gDw_lt (m := gLv g) (s := gSd s) hl)
      obtain ⟨tb, tb1, tb2, tb3, tb4⟩ := c_nthOf hL (gDw_lt (m := gLv g) (s := gSd (gSd (gSd s))) hl)
      have ea : gWho g (gDw (gLv g) (gSd s)) = ta := gNth_is ta2 ta3 ta1
      have eb : gCc g (gSd s) = tb := gNth_is tb2 tb3 tb1
      rw [ta4, tb4]
      have ej : gCj g (gSd s) = 4 * ta + gDw 4 (gSd (gSd s)) := by unfold gCj; rw [ea]
      rw [ej, eb]
      have N := (gW_N W).2.2
      obtain ⟨lk', fr', e, p1, p2⟩ := c_point (c := tb + 1) N (gok_6s N _ tb tb1 (decide_eq_true (gL_th W tb1 tb2))) ta1 d4 tb1 Y.2.2.1.1 Y.2.2.2.2.1
      rw [bnoS] at e
      rw [e, xlet_eq, xu_q]
      exact ⟨lk', fr', rfl, cY_l Y p1 p2⟩
  · rw [if_neg (fun q => h (c.mp q)), if_neg (fun q => h q.1)]
    exact ⟨lk, fr, rfl, Y⟩
/-- the reference CHURNS -/
theorem r_churns (W : gW g) (hs : s < 2 ^ 31) (hl : 0 < gLv g) {lv : Nat → Int32} (hv : gLiv g lv) (lk : Nat → Int32) : mX12_churns (nI (gLv g)) (lN s) lk lv = some (lN (gSd (gSd (gSd s))), upd lk (gCj g s) (bno (gCc g s + 1))) := by
  have h40 : gLv g ≤ 40 := fb_ct_le _ 40
  have d4 : gDw 4 (gSd s) < 4 := gDw_lt (by decide)
  have da := gDw_lt (m := gLv g) (s := s) hl
  have db := gDw_lt (m := gLv g) (s := gSd (gSd s)) hl
  obtain ⟨a1, a2, a3⟩ := gWho_is da
  obtain ⟨b1, b2, b3⟩ := gWho_is db
  have ea := hv _ a1 a2
  have eb := hv _ b1 b2
  rw [a3] at ea
  rw [b3] at eb
  unfold mX12_churns
  have e4 : (4 : Int32) * nI (gWho g (gDw (gLv g) s)) + nI (gDw 4 (gSd s)) = nI (gCj g s) := by rw [show (4 : Int32) = nI 4 from rfl, pk_mul, nI_add]; rfl
  have hj : gCj g s < 160 := by unfold gCj; omega
  rw [r_draw hl (by omega) hs, obind, xu_q, zb _ 40 (by omega) (by decide), if_pos rfl, show mX12_draw (4 : Int32) (lN (gSd s)) = _ from r_draw (m := 4) (by decide) (by decide) (gSd_lt s), obind, xu_q, r_draw hl (by omega) (gSd_lt _), obind, xu_q, zb _ 40 (by omega) (by decide), if_pos rfl, zc _ (by omega), zc _ (by omega), ea, eb, e4, zb _ 3520 (by omega) (by decide), if_pos rfl, zc _ (by omega), bnoS]
  rfl
end CHU
