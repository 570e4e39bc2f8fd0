/-- the class's yard between STEPS -/
def cY (g : GH) (sz ag tr ca pl lk rt cs : Nat → Int32) (fr : Nat → Int64) (th mk : Int64) (tn sp : Int32) : Prop :=
  (∀ t, t < 40 → sz t = nI (g 0 t)) ∧ (∀ t, t < 40 → 0 < g 0 t → ag t = nI (g 4 t) ∧ tr t = nI (g 1 t) ∧ ca t = nI (g 2 t) ∧ pl t = nI (g 3 t)) ∧
  ((∀ j, j < 160 → lk j = bno (g 6 j)) ∧ (∀ k, k < 8 → rt k = bno (g 7 k))) ∧ (∀ w, w < gTr g → cs w = nI (gCa g w)) ∧ (∀ t, t < 40 → zh (fr t) (fun u => gLk g u t)) ∧ zh th (gTh g) ∧ zh mk (fun t => decide (g 5 t = 1)) ∧ tn = nI (gTr g) ∧ sp = nI (g 8 0)
/-- in a STEP -/
def cM (h : GH) (T : Nat) (sz ag tr ca pl lk rt cs : Nat → Int32) (fr : Nat → Int64) (mk : Int64) (tn sp : Int32) (ab : Nat → Int64) (ro le : Int64) : Prop :=
  (∀ t, t < 40 → sz t = nI (h 0 t)) ∧ (∀ t, t < 40 → 0 < h 0 t → ag t = nI (h 4 t) ∧ tr t = nI (h 1 t) ∧ ca t = nI (if h 9 t = 1 then 1000 else h 2 t) ∧ pl t = nI (h 3 t)) ∧
  ((∀ j, j < 160 → lk j = bno (h 6 j)) ∧ (∀ k, k < 8 → rt k = bno (h 7 k))) ∧ (∀ w, w < T → cs w = nI (if w = 0 ∧ gCa h 0 = 0 then 1 else gCa h w)) ∧ (∀ t, t < 40 → zh (fr t) (fun u => gLk h u t)) ∧ zh mk (fun t => decide (h 5 t = 1)) ∧ tn = nI T ∧ sp = nI (h 8 0) ∧
  (∀ w, w < 42 → zh (ab w) (fun t => decide (0 < h 0 t ∧ gTn h t = w))) ∧ zh ro (gRt h) ∧ zh le (gWt h)
/-- the row of those of the first CAR -/
def cW (h : GH) (n : Nat) (f : Nat → Nat) (wa : Nat → Int32) : Prop := n ≤ 40 ∧ (∀ i, i < n → f i < 40 ∧ wa i = nI (f i) ∧ 0 < h 0 (f i) ∧ (h 1 (f i) = 0 → h 2 (f i) = 0 → h 3 (f i) = i)) ∧ (∀ t, t < 40 → 0 < h 0 t → h 1 t = 0 → h 2 t = 0 → h 3 t < n ∧ f (h 3 t) = t)
theorem fillL_5 (v : Int64) : ∀ (k i : Nat) (row : Nat → Int64) (t : Nat), i + k ≤ 2000 → mJ7_fill_d0a16_6 v k i row t = if i ≤ t ∧ t < i + k then v else row t := by
  intro k
  induction k with
  | zero => intro i row t _; rw [mJ7_fill_d0a16_6, if_neg (by omega)]
  | succ k ih =>
    intro i row t h
    rw [mJ7_fill_d0a16_6, ih (i + 1) _ t (by omega), zc i (by omega)]
    by_cases e : t = i
    · subst e
      rw [if_neg (by omega), if_pos (by omega)]; exact pk_uLs
    · rw [pk_uLn e]
      by_cases q : i + 1 ≤ t ∧ t < i + 1 + k
      · rw [if_pos q, if_pos (by omega)]
      · rw [if_neg q, if_neg (by omega)]
theorem s_fillL (N : Nat) (hN : N ≤ 2000) (v : Int64) (row : Nat → Int64) (t : Nat) (ht : t < N) : mJ7_fill_d0a16 N v row t = v := by
  unfold mJ7_fill_d0a16
  rw [fillL_5 v N 0 row t (by omega), if_pos (by omega)]
theorem zh_ins {m : Int64} {p q : Nat → Bool} {i : Nat} (hi : i < 40) (h : zh m p) (e : ∀ t, t < 40 → q t = (p t || decide (t = i))) : zh (m ||| mX11_bit (nI i)) q :=
  zh_cong (zh_or h (zh_bit hi)) (fun t ht => (e t ht).symm)
theorem zh_del {m : Int64} {p q : Nat → Bool} {i : Nat} (hi : i < 40) (h : zh m p) (e : ∀ t, t < 40 → q t = (p t && !decide (t = i))) : zh (m &&& (mX11_bit (nI i) ^^^ (-1))) q :=
  zh_cong (zh_andn h (zh_bit hi)) (fun t ht => (e t ht).symm)
section CG
variable {g : GH} {sz ag tr ca pl lk rt cs : Nat → Int32} {fr : Nat → Int64} {th mk : Int64} {tn sp : Int32}
theorem c_gather38 (W : gW g) (hsz : ∀ t, t < 40 → sz t = nI (g 0 t)) (hp : ∀ t, t < 40 → 0 < g 0 t → tr t = nI (g 1 t) ∧ ca t = nI (g 2 t) ∧ pl t = nI (g 3 t)) : ∀ k i (le : Int64) (wa : Nat → Int32) (ab : Nat → Int64), i + k = 40 →
    zh le (fun t => decide (t < i) && gWt g t) → (∀ t, t < i → gWt g t = true → wa (g 3 t) = nI t) → (∀ w, w < 42 → zh (ab w) (fun t => decide (t < i) && decide (0 < g 0 t ∧ g 1 t = w))) →
    ∃ le' wa' ab', zh le' (gWt g) ∧ (∀ t, t < 40 → gWt g t = true → wa' (g 3 t) = nI t) ∧ (∀ w, w < 42 → zh (ab' w) (fun t => decide (0 < g 0 t ∧ g 1 t = w))) ∧
      mX3_gather_38 sz tr ca pl rt k i le (nI (fb_ct (gWt g) i)) wa ab = (mX10_rooted rt, le', nI (fb_ct (gWt g) 40), 0, true, wa', ab') := by
  have N := gW_N W
  intro k
  induction k with
  | zero =>
    intro i le wa ab hi h1 h2 h3
    have : i = 40 := by omega
    subst this
    exact ⟨le, wa, ab, zh_cong h1 (fun t ht => by rw [decide_eq_true ht, Bool.true_and]), h2, fun w hw => zh_cong (h3 w hw) (fun t ht => by rw [decide_eq_true ht, Bool.true_and]), by rw [mX3_gather_38]⟩
  | succ k ih =>
    intro i le wa ab hi h1 h2 h3
    have hi40 : i < 40 := by omega
    have hs := fb_ct_succ (gWt g) i
    have n := N.1 i hi40
    have h9 : g 9 i = 0 := (W.1 i hi40).2.2.2.2
    rw [mX3_gather_38, zc i (by omega), hsz i hi40]
    by_cases p : 0 < g 0 i
    · obtain ⟨e1, e2, e3⟩ := hp i hi40 p
      have m := N.2.1 i hi40 p
      have h42 : g 1 i < 42 := by
        have := gTr_lt hi40 p
        have := gTr_40 W
        omega
      rw [if_pos ((nIp (by omega)).mpr p), xlet_eq, e1, s_maskAt 42 _ h42 (by decide), s_putMask 42 _ h42 (by decide)]
      have h3' : ∀ w, w < 42 → zh (vp_updL ab (g 1 i) (ab (g 1 i) ||| mX11_bit (nI i)) w) (fun t => decide (t < i + 1) && decide (0 < g 0 t ∧ g 1 t = w)) := by
        intro w hw
        by_cases z : w = g 1 i
        · rw [z, pk_uLs]
          refine zh_ins hi40 (h3 _ h42) (fun t ht => ?_)
          by_cases y : t = i
          · subst y; simp [p]
          · by_cases x : t < i
            · simp [x, y, show t < i + 1 by omega]
            · simp [x, y, show ¬ t < i + 1 by omega]
        · rw [pk_uLn z]
          refine zh_cong (h3 w hw) (fun t ht => ?_)
          by_cases y : t = i
          · subst y
            have : ¬ g 1 t = w := fun q => z q.symm
            simp [this]
          · by_cases x : t < i
            · simp [x, show t < i + 1 by omega]
            · simp [x, show ¬ t < i + 1 by omega]
      have skip : gWt g i = false → (zh le (fun t => decide (t < i + 1) && gWt g t) ∧ ∀ t, t < i + 1 → gWt g t = true → wa (g 3 t) = nI t) := by
        intro w
        refine ⟨zh_cong h1 (fun t ht => ?_), fun t ht q => ?_⟩
        · by_cases y : t = i
          · subst y; simp [w]
          · by_cases x : t < i
            · simp [x, show t < i + 1 by omega]
            · simp [x, show ¬ t < i + 1 by omega]
        · by_cases y : t = i
          · subst y; rw [w] at q; exact absurd q (by decide)
          · exact h2 t (by omega) q
      by_cases z : g 1 i = 0
      · rw [if_pos ((nI0 (by omega)).mpr z), e2]
        by_cases y : g 2 i = 0
        · have w : gWt g i = true := (gWt_iff g i).mpr ⟨p, z, y, h9⟩
          have pl40 : g 3 i < 40 := mI_place (mI_of W (by have := gTr_lt hi40 p; omega)) hi40 p
          rw [if_pos ((nI0 (by omega)).mpr y), e3, s_put 40 _ pl40 (by decide), xlet_eq, nI_1]
          rw [if_pos w] at hs
          rw [← hs]
          refine ih (i + 1) _ _ _ (by omega) (zh_ins hi40 h1 (fun t ht => ?_)) (fun t ht q => ?_) h3'
          · by_cases y : t = i
            · subst y; simp [w]
            · by_cases x : t < i
              · simp [x, y, show t < i + 1 by omega]
              · simp [x, y, show ¬ t < i + 1 by omega]
          · by_cases x : t = i
            · subst x; exact pk_us
            · have q' := (gWt_iff g t).mp q
              rw [pk_un (fun e => x (W.2.2.2.2.1 t i (by omega) hi40 q'.1 p (q'.2.1.trans z.symm) (q'.2.2.1.trans y.symm) e))]
              exact h2 t (by omega) q
        · have w : gWt g i = false := Bool.eq_false_iff.mpr (fun q => y ((gWt_iff g i).mp q).2.2.1)
          rw [if_neg (fun q => y ((nI0 (by omega)).mp q))]
          rw [if_neg (by rw [w]; decide)] at hs
          obtain ⟨a1, a2⟩ := skip w
          have := ih (i + 1) le wa _ (by omega) a1 a2 h3'
          rw [hs] at this
          exact this
      · have w : gWt g i = false := Bool.eq_false_iff.mpr (fun q => z ((gWt_iff g i).mp q).2.1)
        rw [if_neg (fun q => z ((nI0 (by omega)).mp q))]
        rw [if_neg (by rw [w]; decide)] at hs
        obtain ⟨a1, a2⟩ := skip w
        have := ih (i + 1) le wa _ (by omega) a1 a2 h3'
        rw [hs] at this
        exact this
    · have w : gWt g i = false := Bool.eq_false_iff.mpr (fun q => p ((gWt_iff g i).mp q).1)
      rw [if_neg (fun q => p ((nIp (by omega)).mp q))]
      rw [if_neg (by rw [w]; decide)] at hs
      have := ih (i + 1) le wa ab (by omega) (zh_cong h1 (fun t ht => by
          by_cases y : t = i
          · subst y; simp [w]
          · by_cases x : t < i
            · simp [x, show t < i + 1 by omega]
            · simp [x, show ¬ t < i + 1 by omega])) (fun t ht q => by
          by_cases y : t = i
          · subst y; rw [w] at q; exact absurd q (by decide)
          · exact h2 t (by omega) q) (fun x hx => zh_cong (h3 x hx) (fun t ht => by
          by_cases y : t = i
          · subst y; simp [p]
          · by_cases x : t < i
            · simp [x, show t < i + 1 by omega]
            · simp [x, show ¬ t < i + 1 by omega]))
      rw [hs] at this
      exact this
/-- the class gathers -/
theorem c_gather (W : gW g) (Y : cY g sz ag tr ca pl lk rt cs fr th mk tn sp) (wa : Nat → Int32) (ab : Nat → Int64) : ∃ ro le nw wa' ab' f, cM g (gTr g) sz ag tr ca pl lk rt cs fr mk tn sp ab' ro le ∧ cW g nw f wa' ∧ mX3_gather wa ab sz tr ca pl rt = (ro, le, nI nw, 0, true, wa', ab') := by
  obtain ⟨y1, y2, ⟨y3, y4⟩, y5, y6, y7, y8, y9, y10⟩ := Y
  have N := gW_N W
  have h9 : ∀ t, t < 40 → g 9 t = 0 := fun t ht => (W.1 t ht).2.2.2.2
  unfold mX3_gather
  rw [xlet_eq]
  obtain ⟨le', wa', ab', k1, k2, k3, k4⟩ := c_gather38 (rt := rt) W y1 (fun t ht p => (y2 t ht p).2) 40 0 0 wa (mJ7_fill_d0a16 42 0 ab) rfl (zh_cong zh_0 (fun t _ => by simp)) (fun t ht => by omega) (fun w hw => by rw [s_fillL 42 (by decide) 0 ab w hw]; exact zh_cong zh_0 (fun t _ => by simp))
  have P := ct_places (p := gWt g) (c := g 3) (fun a b ha hb pa pb e => by
      have pa := (gWt_iff g a).mp pa
      have pb := (gWt_iff g b).mp pb
      exact W.2.2.2.2.1 a b ha hb pa.1 pb.1 (by omega) (by omega) e)
    (fun a ha pa q hq => by
      have pa := (gWt_iff g a).mp pa
      obtain ⟨u, hu, p, e1, e2, e3⟩ := W.2.2.2.1 a ha pa.1 q hq
      exact ⟨u, hu, (gWt_iff g u).mpr ⟨p, by omega, by omega, h9 u hu⟩, e3⟩)
  have ex : ∀ i, ∃ u, i < fb_ct (gWt g) 40 → u < 40 ∧ gWt g u = true ∧ g 3 u = i := fun i => by
    by_cases hi : i < fb_ct (gWt g) 40
    · obtain ⟨u, a, b, c⟩ := P.2 i hi
      exact ⟨u, fun _ => ⟨a, b, c⟩⟩
    · exact ⟨0, fun q => absurd q hi⟩
  obtain ⟨f, hf⟩ := Classical.axiomOfChoice ex
  refine ⟨mX10_rooted rt, le', fb_ct (gWt g) 40, wa', ab', f, ⟨y1, fun t ht p => ?_, ⟨y3, y4⟩, fun w hw => ?_, y6, y8, y9, y10, fun w hw => ?_, ?_, k1⟩, ⟨fb_ct_le _ 40, fun i hi => ?_, fun t ht p a b => ?_⟩, k4⟩
  · obtain ⟨a, b, c, d⟩ := y2 t ht p
    rw [if_neg (by have := h9 t ht; omega)]
    exact ⟨a, b, c, d⟩
  · rw [y5 w hw]
    by_cases z : w = 0 ∧ gCa g 0 = 0
    · exfalso
      obtain ⟨u, a, b, c⟩ := gTr_ex W (show 0 < gTr g by omega)
      have := gCa_lt a b c
      omega
    · rw [if_neg z]
  · refine zh_cong (k3 w hw) (fun t ht => ?_)
    unfold gTn
    rw [if_neg (by have := h9 t ht; omega)]
  · exact zh_cong (s_rooted rt) (fun t ht => bhas_g7' N.2.2 rt y4 ht)
  · obtain ⟨a, b, c⟩ := hf i hi
    exact ⟨a, by rw [← k2 (f i) a b, c], ((gWt_iff g _).mp b).1, fun _ _ => c⟩
  · have w : gWt g t = true := (gWt_iff g t).mpr ⟨p, a, b, h9 t ht⟩
    have l := P.1 t ht w
    obtain ⟨a', b', c'⟩ := hf (g 3 t) l
    have b' := (gWt_iff g _).mp b'
    exact ⟨l, W.2.2.2.2.1 _ t a' ht b'.1 p (by omega) (by omega) c'⟩
end CG
