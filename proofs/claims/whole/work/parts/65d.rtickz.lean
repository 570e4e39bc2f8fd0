theorem gW_pa {h : GH} (W : gW h) : gW (gPa h) := by
  obtain ⟨w1, w2, w3, w4, w5, w6, w7⟩ := W
  have o : ∀ {a : Nat}, (a ≠ 4 ∧ a ≠ 8) → ∀ t, gPa h a t = h a t := fun e t => gPa_o h e t
  have K := iK_of (h := h) (k := gPa h) ⟨w6, w7⟩ (o (by decide)) (o (by decide)) (o (by decide))
  refine ⟨fun t ht => ?_, ?_, ?_, ?_, ?_, K.1, K.2⟩
  · have := w1 t ht
    rw [o (a := 0) (by decide), o (a := 5) (by decide), o (a := 9) (by decide), gPa_4]
    refine ⟨this.1, ?_, this.2.2⟩
    split <;> omega
  · simp only [o (a := 0) (by decide), o (a := 1) (by decide)]; exact w2
  · simp only [o (a := 0) (by decide), o (a := 1) (by decide), o (a := 2) (by decide)]; exact w3
  · simp only [o (a := 0) (by decide), o (a := 1) (by decide), o (a := 2) (by decide), o (a := 3) (by decide)]; exact w4
  · simp only [o (a := 0) (by decide), o (a := 1) (by decide), o (a := 2) (by decide), o (a := 3) (by decide)]; exact w5
theorem gW_mark {h : GH} (W : gW h) {x : Nat} (hx : 0 < h 0 x) : gW (gset h 5 x 1) := by
  obtain ⟨w1, w2, w3, w4, w5, w6, w7⟩ := W
  have o : ∀ {a : Nat}, a ≠ 5 → ∀ t, gset h 5 x 1 a t = h a t := fun e t => gset_n h 1 (fun q => e q.1)
  have K := iK_of (h := h) (k := gset h 5 x 1) ⟨w6, w7⟩ (o (by decide)) (o (by decide)) (o (by decide))
  refine ⟨fun t ht => ?_, ?_, ?_, ?_, ?_, K.1, K.2⟩
  · have := w1 t ht
    rw [o (a := 0) (by decide), o (a := 4) (by decide), o (a := 9) (by decide)]
    by_cases z : t = x
    · subst z; rw [gset_s]; exact ⟨this.1, this.2.1, by decide, fun q => by omega, this.2.2.2.2⟩
    · rw [gset_n h 1 (fun q => z q.2)]; exact this
  · simp only [o (a := 0) (by decide), o (a := 1) (by decide)]; exact w2
  · simp only [o (a := 0) (by decide), o (a := 1) (by decide), o (a := 2) (by decide)]; exact w3
  · simp only [o (a := 0) (by decide), o (a := 1) (by decide), o (a := 2) (by decide), o (a := 3) (by decide)]; exact w4
  · simp only [o (a := 0) (by decide), o (a := 1) (by decide), o (a := 2) (by decide), o (a := 3) (by decide)]; exact w5
theorem gW_mk {h : GH} (W : gW h) : gW (gMk h) := by
  unfold gMk
  by_cases a : gMk1 h = true
  · rw [if_pos a]; exact W
  · rw [if_neg a]
    by_cases b : gMkB h = 0
    · rw [if_pos b]; exact W
    · rw [if_neg b]
      exact gW_mark W (of_decide_eq_true (bbt_at (p := fun t => decide (0 < h 0 t ∧ h 1 t = 0 ∧ gOut h t = true)) (n := 40) b).1).1
theorem gMk_o (h : GH) {a : Nat} (e : a ≠ 5) (t : Nat) : gMk h a t = h a t := by
  unfold gMk
  split
  · rfl
  · split
    · rfl
    · exact gset_n h 1 (fun q => e q.1)
theorem gFn_8 (h : GH) (s : Nat) : gSh (gFn h s) 8 0 = h 8 0 := by
  rw [gSh_o _ (by decide), gFn_o h s (by decide), gDr_o h _ (by decide)]
theorem gTick_0 {P : GP} {g : GH} (h : gTr g = 0) : gTick P g = (gPa g, 0, 0, 0, false) := by unfold gTick; rw [if_pos h]
theorem gTick_f {P : GP} {g : GH} (h : gTr g ≠ 0) (hw : gWant g = false) : gTick P g = (gPa (gSh (gDr g (gF1 g))), fb_ct (gF1 g) 40, 0, 0, false) := by
  unfold gTick; rw [if_neg h, if_neg (by rw [hw]; decide)]; rfl
def gFu (P : GP) (g : GH) : Bool := decide (fb_ct (gWt (gX P g).1) 40 = 0) && (gX P g).2.2.2.1
theorem gTick_e {P : GP} {g : GH} (h : gTr g ≠ 0) (hw : gWant g = true) : gTick P g = (gPa (if gFu P g = true then gMk (gSh (gFn (gX P g).1 (gX P g).2.2.1)) else gSh (gFn (gX P g).1 (gX P g).2.2.1)), fb_ct (gWt (gX P g).1) 40, (gX P g).2.2.2.2.1, (gX P g).2.2.2.2.2, gFu P g) := by
  unfold gTick; rw [if_neg h, if_pos hw]; rfl
section RZ
variable {v b : Nat} {g : GH} {sz tr ca pl ag mk lk rt st sT so sf sb cs cv ut km kr : Nat → Int32} {P : GP}
theorem r_end (hv : v < 22) {h : GH} {K : GK} {sz1 tr1 ca1 pl1 ag1 mk1 lk1 st1 sT1 : Nat → Int32} (W : gW h) (M : rM v h sz1 tr1 ca1 pl1 ag1 mk1 lk1 rt st1 sT1) (h8 : h 8 0 = g 8 0) (hs : so v = nI (g 8 0)) (hK : rK v K km kr) (hf : lF v sz sz1 ∧ lF v tr tr1 ∧ lF v ca ca1 ∧ lF v pl pl1 ∧ lF v ag ag1 ∧ lF v mk mk1 ∧ lG v lk lk1) (rn co : Int32) (fe wt : Nat) (fu : Bool) (sk : Nat → Int64) (ask np im : Nat → Int32) :
    ∃ ag' km' kr', (gW (gPa h) ∧ rL v (gPa h) sz1 tr1 ca1 pl1 ag' mk1 lk1 rt ∧ rK v (kAdd K (g 8 0) fe wt) km' kr') ∧ (lF v sz sz1 ∧ lF v tr tr1 ∧ lF v ca ca1 ∧ lF v pl pl1 ∧ lF v ag ag' ∧ lF v mk mk1 ∧ lG v lk lk1 ∧ l1 v km km' ∧ lK v kr kr') ∧
      (mX12_writesDown (nI v) (nI fe) (nI wt) so km kr).bind (xu fun q12_1 => fun q12_2 => mX12_ticks_144 (nI v) so 40 0 rn (nI fe) (nI wt) co fu sz1 tr1 ca1 pl1 ag1 mk1 lk1 q12_1 q12_2 sk ask np im st1 sT1) =
        some ((rn, nI fe, nI wt, co, fu, upd so v (nI (g 8 0 + 1)), sz1, tr1, ca1, pl1, ag', mk1, lk1, km', kr', sk, ask, np, im, st1, sT1) : TT) := by
  obtain ⟨km', kr', k1, ⟨k2, k3⟩, k4⟩ := r_writes (a := g 8 0) (b := fe) (c := wt) hv hK hs
  rw [k4, obind, xu_r]
  obtain ⟨ag', f, M', q⟩ := r_age (so := so) (ag0 := ag1) hv (gW_N W) (by rw [h8]; exact hs) rn (nI fe) (nI wt) co fu km' kr' ask np im sk 40 0 ag1 rfl M (lF_rf v _) (fun t ht p => by rw [if_neg (by omega)]; exact (M.2.1 t ht p).2.2.2.1)
  rw [h8] at q
  refine ⟨ag', km', kr', ⟨gW_pa W, rL_of M' (fun t ht => ((gW_pa W).1 t ht).2.2.2.2), k1⟩, ⟨hf.1, hf.2.1, hf.2.2.1, hf.2.2.2.1, lF_tr hf.2.2.2.2.1 f, hf.2.2.2.2.2.1, hf.2.2.2.2.2.2, k2, k3⟩, q⟩
theorem r_tick (hv : v < 22) (hb : b < 2) (hF : rF b sf sb cs cv P) (hU : ut b = nI P.2.2) (hU2 : P.2.2 < 1000) (W : gW g) (L : rL v g sz tr ca pl ag mk lk rt) (hs : so v = nI (g 8 0)) (hs2 : g 8 0 ≤ 1000) {K : GK} (hK : rK v K km kr) (rn : Int32) (sk : Nat → Int64) (ask np im st sT : Nat → Int32) :
    ∃ rn' sz' tr' ca' pl' ag' mk' lk' km' kr' sk' ask' np' im' st' sT', (gW (gTick P g).1 ∧ rL v (gTick P g).1 sz' tr' ca' pl' ag' mk' lk' rt ∧ rK v (kAdd K (g 8 0) (gTick P g).2.1 (gTick P g).2.2.1) km' kr') ∧
      (lF v sz sz' ∧ lF v tr tr' ∧ lF v ca ca' ∧ lF v pl pl' ∧ lF v ag ag' ∧ lF v mk mk' ∧ lG v lk lk' ∧ l1 v km km' ∧ lK v kr kr') ∧
      mX12_ticks (nI v) (nI b) rn ut sf sb cs cv so sz tr ca pl ag mk lk rt km kr sk ask np im st sT =
        some ((rn', nI (gTick P g).2.1, nI (gTick P g).2.2.1, nI (gTick P g).2.2.2.1, (gTick P g).2.2.2.2, upd so v (nI (g 8 0 + 1)), sz', tr', ca', pl', ag', mk', lk', km', kr', sk', ask', np', im', st', sT') : TT) := by
  have N := gW_N W
  have M := L (mX12_stirs st) sT (fun t ht => s_stirs st ht)
  have h40 := gTr_40 W
  have frf : lF v sz sz ∧ lF v tr tr ∧ lF v ca ca ∧ lF v pl pl ∧ lF v ag ag ∧ lF v mk mk ∧ lG v lk lk := ⟨lF_rf v _, lF_rf v _, lF_rf v _, lF_rf v _, lF_rf v _, lF_rf v _, fun _ _ => rfl⟩
  unfold mX12_ticks
  rw [xlet_eq, r_trains hv M N, obind]
  by_cases hT : gTr g = 0
  · rw [gTick_0 hT, if_neg (fun q => by have := (nIp (by omega)).mp q; omega)]
    unfold mX12_ticks_104
    rw [r_trains hv M N, obind, if_neg (fun q => by have := (nIp (by omega)).mp q; omega)]
    obtain ⟨ag', km', kr', k1, k2, k3⟩ := r_end (g := g) (so := so) (K := K) (sz := sz) (tr := tr) (ca := ca) (pl := pl) (ag := ag) (mk := mk) (lk := lk) hv W M rfl hs hK frf rn 0 0 0 false sk ask np im
    exact ⟨rn, sz, tr, ca, pl, ag', mk, lk, km', kr', sk, ask, np, im, mX12_stirs st, sT, k1, k2, k3⟩
  · rw [if_pos ((nIp (by omega)).mpr (by omega)), r_fallen hv M N, obind]
    cases hw : gWant g with
    | false =>
      rw [gTick_f hT hw, if_pos (show (!false) = true from rfl)]
      obtain ⟨sz1, tr1, ca1, pl1, ag1, mk1, lk1, M1, f1, q1⟩ := r_t42 (so := so) hv N rn km kr ask np im sk (fun t ht => (W.1 t ht).2.2.2.2) 40 0 sz tr ca pl ag mk lk (mX12_stirs st) rfl (rM_dr M (fun u _ => rfl))
      have q1 : mX12_ticks_42 (nI v) rn so km kr sk ask np im sT 40 0 (0 : Int32) sz tr ca pl ag mk lk (mX12_stirs st) = _ := q1
      rw [q1, mX12_ticks_42]
      have M2 := rM_dq (q := gF1 g) M1 (fun u hu => by rw [decide_eq_true hu, Bool.true_and])
      obtain ⟨S, R⟩ := gSp_ft W hw
      have N2 := gSp_N S h40
      obtain ⟨tr2, ca2, pl2, np2, im2, M3, ⟨g1, g2, g3⟩, q2⟩ := r_closes hv M2 N2 np im
      rw [q2, obind, xu_r, xu_r, xu_r, xu_r]
      have M4 : rM v (gSh (gDr g (gF1 g))) sz1 tr2 ca2 pl2 ag1 mk1 lk1 rt (mX12_stirs st) sT := by
        refine rM_cong2 M3 (fun t ht => ?_) (fun t ht p => ?_) (fun t ht => ?_) (fun j => ?_) (fun j => ?_)
        · rw [gSh_o _ (by decide), gSh_o _ (by decide), gCl_o _ _ _ (by decide), gCl_o _ _ _ (by decide)]; exact ⟨rfl, rfl⟩
        · rw [gCl_o _ _ _ (by decide)] at p
          obtain ⟨c1, c2, c3⟩ := cl_sh (Q := gDr g (gF1 g)) S (fun _ => rfl) (fun _ => rfl) (fun _ => rfl) R ht p
          rw [c1, c2, c3, gSh_o _ (a := 4) (by decide), gSh_o _ (a := 5) (by decide), gCl_o _ _ _ (a := 4) (by decide), gCl_o _ _ _ (a := 5) (by decide)]
          exact ⟨rfl, rfl, rfl, rfl, rfl⟩
        · rw [gSh_o _ (by decide)]
          have := (S.2.2.2.2.2.1 t ht).2.2.2.2
          omega
        · rw [gSh_o _ (by decide), gCl_o _ _ _ (by decide)]
        · rw [gSh_o _ (by decide), gCl_o _ _ _ (by decide)]
      obtain ⟨ag', km', kr', k1, k2, k3⟩ := r_end (g := g) (so := so) (K := K) (sz := sz) (tr := tr) (ca := ca) (pl := pl) (ag := ag) (mk := mk) (lk := lk) hv (gW_sh S) M4 (by rw [gSh_o _ (by decide), gDr_o g _ (by decide)]) hs hK ⟨f1.1, lF_tr f1.2.1 g1, lF_tr f1.2.2.1 g2, lF_tr f1.2.2.2.1 g3, f1.2.2.2.2.1, f1.2.2.2.2.2.1, f1.2.2.2.2.2.2⟩ rn 0 (fb_ct (gF1 g) 40) 0 false sk ask np2 im2
      exact ⟨rn, sz1, tr2, ca2, pl2, ag', mk1, lk1, km', kr', sk, ask, np2, im2, mX12_stirs st, sT, k1, k2, k3⟩
    | true =>
      rw [gTick_e hT hw, if_neg (show ¬ (!true) = true by decide)]
      unfold mX12_ticks_104
      rw [r_trains hv M N, obind, if_pos ((nIp (by omega)).mpr (by omega))]
      obtain ⟨⟨I1, hp, h8⟩, rn1, sz1, tr1, ca1, pl1, ag1, mk1, lk1, sk1, ask1, np1, im1, st1, sT1, M1, h0, f1, q1⟩ := r_empties (so := so) hv hb hF hU hU2 W hT M hs hs2 rn sk ask np im
      have W1 := gW_sh (gSp_fn I1 hp)
      have N1 := gW_N W1
      have e8 : gSh (gFn (gX P g).1 (gX P g).2.2.1) 8 0 = g 8 0 := by rw [gFn_8]; exact h8
      rw [q1, obind]
      simp only [xu_r]
      show ∃ rn' sz' tr' ca' pl' ag' mk' lk' km' kr' sk' ask' np' im' st' sT', _ ∧ _ ∧ (if gFu P g = true then _ else _) = _
      by_cases fu : gFu P g = true
      · rw [if_pos fu, if_pos fu, r_mk1 hv M1 N1, obind]
        by_cases m1 : gMk1 (gSh (gFn (gX P g).1 (gX P g).2.2.1)) = true
        · have eM : gMk (gSh (gFn (gX P g).1 (gX P g).2.2.1)) = gSh (gFn (gX P g).1 (gX P g).2.2.1) := by unfold gMk; rw [if_pos m1]
          rw [if_pos m1, eM]
          obtain ⟨ag', km', kr', k1, k2, k3⟩ := r_end (g := g) (so := so) (K := K) (sz := sz) (tr := tr) (ca := ca) (pl := pl) (ag := ag) (mk := mk) (lk := lk) hv W1 M1 e8 hs hK f1 rn1 (nI (gX P g).2.2.2.2.2) (fb_ct (gWt (gX P g).1) 40) (gX P g).2.2.2.2.1 (gFu P g) sk1 ask1 np1 im1
          exact ⟨rn1, sz1, tr1, ca1, pl1, ag', mk1, lk1, km', kr', sk1, ask1, np1, im1, st1, sT1, k1, k2, k3⟩
        · rw [if_neg m1]
          obtain ⟨mk2, g1, M2, q2⟩ := r_marks hv M1 N1
          have eM : (if gMkB (gSh (gFn (gX P g).1 (gX P g).2.2.1)) = 0 then gSh (gFn (gX P g).1 (gX P g).2.2.1) else gset (gSh (gFn (gX P g).1 (gX P g).2.2.1)) 5 (gMkB (gSh (gFn (gX P g).1 (gX P g).2.2.1)) - 1) 1) = gMk (gSh (gFn (gX P g).1 (gX P g).2.2.1)) := by unfold gMk; rw [if_neg m1]
          rw [eM] at M2
          rw [q2, obind]
          obtain ⟨ag', km', kr', k1, k2, k3⟩ := r_end (g := g) (so := so) (K := K) (sz := sz) (tr := tr) (ca := ca) (pl := pl) (ag := ag) (mk := mk) (lk := lk) hv (gW_mk W1) M2 (by rw [gMk_o _ (by decide)]; exact e8) hs hK ⟨f1.1, f1.2.1, f1.2.2.1, f1.2.2.2.1, f1.2.2.2.2.1, lF_tr f1.2.2.2.2.2.1 g1, f1.2.2.2.2.2.2⟩ rn1 (nI (gX P g).2.2.2.2.2) (fb_ct (gWt (gX P g).1) 40) (gX P g).2.2.2.2.1 (gFu P g) sk1 ask1 np1 im1
          exact ⟨rn1, sz1, tr1, ca1, pl1, ag', mk2, lk1, km', kr', sk1, ask1, np1, im1, st1, sT1, k1, k2, k3⟩
      · rw [if_neg fu, if_neg fu]
        obtain ⟨ag', km', kr', k1, k2, k3⟩ := r_end (g := g) (so := so) (K := K) (sz := sz) (tr := tr) (ca := ca) (pl := pl) (ag := ag) (mk := mk) (lk := lk) hv W1 M1 e8 hs hK f1 rn1 (nI (gX P g).2.2.2.2.2) (fb_ct (gWt (gX P g).1) 40) (gX P g).2.2.2.2.1 (gFu P g) sk1 ask1 np1 im1
        exact ⟨rn1, sz1, tr1, ca1, pl1, ag', mk1, lk1, km', kr', sk1, ask1, np1, im1, st1, sT1, k1, k2, k3⟩
end RZ
