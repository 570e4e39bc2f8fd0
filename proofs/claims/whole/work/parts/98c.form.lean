theorem gput_out : ∀ (L : List (Nat × Nat)) (A : Nat → Int32) (c j : Nat), j < c → gput A c L j = A j
  | [], A, c, j, _ => rfl
  | x :: L, A, c, j, h => by
    rw [gput, gput_out L _ _ j (by omega)]
    exact pk_un (by omega)
theorem gput_in : ∀ (L : List (Nat × Nat)) (A : Nat → Int32) (c j : Nat), j < L.length → gput A c L (c + j) = ecl (L.getD j (0, 0)).1 (L.getD j (0, 0)).2
  | [], A, c, j, h => absurd h (Nat.not_lt_zero _)
  | x :: L, A, c, 0, h => by
    rw [gput, gput_out L _ _ _ (by omega)]
    exact pk_us
  | x :: L, A, c, j + 1, h => by
    have hl : (x :: L).length = L.length + 1 := rfl
    rw [gput, show c + (j + 1) = (c + 1) + j by omega, gput_in L _ _ j (by omega)]
    rfl
theorem getD_el (L : List (Nat × Nat)) {j : Nat} (h : j < L.length) : L.getD j (0, 0) = L[j] := by
  rw [List.getD_eq_getElem?_getD, List.getElem?_eq_getElem h]; rfl
theorem rput_inS (L : List (Nat × Nat)) (A : Nat → Int32) (c j : Nat) (h : j < L.length) : rput A c (oSo L) (c + j) = nI (L.getD j (0, 0)).1 := by
  rw [rput_in (oSo L) A c j (by rw [oSo_l]; exact h)]
  unfold oSo
  rw [List.getElem_map, getD_el L h]
theorem rput_inV (L : List (Nat × Nat)) (A : Nat → Int32) (c j : Nat) (h : j < L.length) : rput A c (oVa L) (c + j) = nI (L.getD j (0, 0)).2 := by
  rw [rput_in (oVa L) A c j (by rw [oVa_l]; exact h)]
  unfold oVa
  rw [List.getElem_map, getD_el L h]
theorem getD_mid (L1 Lw L2 : List (Nat × Nat)) {c : Nat} (h : c < Lw.length) : (L1 ++ (Lw ++ L2)).getD (L1.length + c) (0, 0) = Lw.getD c (0, 0) := by
  rw [List.getD_eq_getElem?_getD, List.getD_eq_getElem?_getD, List.getElem?_append_right (by omega), Nat.add_sub_cancel_left, List.getElem?_append_left h]
theorem to64_inj {a b : Int32} (h : a.toInt64 = b.toInt64) : a = b := Int32.toInt_inj.mp (by rw [← k_w a, ← k_w b, h])
/-- four facts in a row, the class's; the reference's -/
def fa4 (a z c d : Int32) : Nat → Int32 := fun j => if j = 0 then a else if j = 1 then z else if j = 2 then c else d
section FM
variable {n i b : Nat} {P : NP} {L : List (Nat × Nat)} {tx : Nat → Nat} {un ch sm th rn cd : Int32} {nmc sz bg lc ln rr co cf cl : Nat → Int32} {du : Bool} {CS0 CV0 : Nat → Int32} {trd cds : Int32} {TT : Nat → Nat → Int32} {nm : Nat → Int64}
/-- a formula told: both sides reckon one number -/
theorem f_told (hL : L.length ≤ 1600) (I : nInv P L) (hc : cPl P L un ch sm th rn cd nmc sz bg lc ln rr co cf cl du) (hR : rPl tx n b P L CS0 CV0 trd cds TT nm) (hb : b < 2) {w : Nat} (hw : w < 3) (h9 : P 9 w ≠ 0) :
    ¬ TT 9 (3 * b + w) = -1 ∧ ∀ (fa ask : Nat → Int32), (∀ j, j < 4 → kB (fa j)) → (∀ s, 1 ≤ s → s ≤ 7 → (if w = 1 then s = 1 ∨ 5 ≤ s else s ≤ 4) → ask s = fa (fxi s)) → ∃ r : Int32, kB r ∧ (w ≠ 2 → kT r) ∧ (∀ (tp : Int32) (sk : Nat → Int32), ∃ tp' sk', mX9_run (nI w) tp fa sk co cf cl = (r, tp', sk')) ∧ ∀ sk, ∃ sk', mX12_reckons (nI w) (nI b) (TT 9) (TT 10) (TT 11) (TT 12) sk ask = some (r.toInt64, sk') := by
  obtain ⟨L1, Lw, L2, e, l1, l2, gp, gf⟩ := I.2.2.2.2 w hw h9
  obtain ⟨-, -, -, -, -, -, -, -, -, -, -, cc, ⟨A0, cco⟩, -⟩ := hc
  obtain ⟨-, -, -, -, -, -, -, -, -, rt9, r11, r12, -⟩ := hR
  obtain ⟨D, T, ok, kt⟩ := cok_of gp (by unfold mP; omega)
  obtain ⟨c8, c9⟩ := cc w hw
  obtain ⟨s9, s10⟩ := rt9 w hw
  rw [if_neg h9] at s9
  have len : L.length = L1.length + (Lw.length + L2.length) := by rw [e, List.length_append, List.length_append]
  have hN : P 8 w + Lw.length ≤ 1600 := by omega
  have at' : ∀ c, c < Lw.length → L.getD (P 8 w + c) (0, 0) = Lw.getD c (0, 0) := fun c hc => by rw [e, ← l1]; exact getD_mid L1 Lw L2 hc
  refine ⟨by rw [s9]; exact nI_m1 (by omega), fun fa ask hfb hfa => ?_⟩
  have run := fun (tp : Int32) (sk : Nat → Int32) (rs : Nat → Int64) => e_reckons (fun c => (Lw.getD c (0, 0)).1) (fun c => (Lw.getD c (0, 0)).2) Lw.length D T co cf cl (P 8 w) (P 8 w) w b fa ask (TT 9) (TT 10) (TT 11) (TT 12) ok hw hb (by omega) hN hN (by rw [c9, l2]) c8
    (fun c hc => by
      have g := gput_in L A0 0 (P 8 w + c) (by omega)
      rw [Nat.zero_add] at g
      rw [cco, g, at' c hc])
    s9 (by rw [s10 h9, l2])
    (fun c hc => by
      rw [r11, Nat.add_assoc, rput_inS L CS0 (1600 * b) (P 8 w + c) (by omega), at' c hc])
    (fun c hc _ => by
      rw [r12, Nat.add_assoc, rput_inV L CV0 (1600 * b) (P 8 w + c) (by omega), at' c hc])
    (fun c hc h1 h7 => hfa _ h1 h7 (by
      have m : Lw.getD c (0, 0) ∈ Lw := by rw [getD_el Lw hc]; exact List.getElem_mem hc
      exact gf _ m h1 h7)) hfb tp sk rs
  obtain ⟨r, tp0, cs0, rs0, a1, a2, a3, a4⟩ := run 0 (fun _ => 0) (fun _ => 0)
  refine ⟨r, a3, fun h2 => a4 (kt (decide_eq_true h2)), fun tp sk => ?_, fun sk => ?_⟩
  · obtain ⟨r', tp', cs', rs', b1, b2, -, -⟩ := run tp sk (fun _ => 0)
    rw [a2] at b2
    injection b2 with b2
    injection b2 with b2 _
    rw [to64_inj b2]
    exact ⟨tp', cs', b1⟩
  · obtain ⟨r', tp', cs', rs', b1, b2, -, -⟩ := run 0 (fun _ => 0) sk
    rw [a1] at b1
    injection b1 with b1 _
    rw [b1]
    exact ⟨rs', b2⟩
/-- without a text -/
theorem f_none (hc : cPl P L un ch sm th rn cd nmc sz bg lc ln rr co cf cl du) (hR : rPl tx n b P L CS0 CV0 trd cds TT nm) {w : Nat} (hw : w < 3) (h9 : P 9 w = 0) (tp : Int32) (fa sk : Nat → Int32) : TT 9 (3 * b + w) = -1 ∧ mX9_run (nI w) tp fa sk co cf cl = ((if w = 2 then fa 1 else if 3 < fa 2 then 1 else 0), tp, sk) := by
  obtain ⟨-, -, -, -, -, -, -, -, -, -, -, cc, -, -⟩ := hc
  obtain ⟨-, -, -, -, -, -, -, -, -, rt9, -, -, -⟩ := hR
  have s9 := (rt9 w hw).1
  rw [if_pos h9] at s9
  refine ⟨s9, ?_⟩
  unfold mX9_run
  rw [s_at 3 w hw (by decide), (cc w hw).2, h9, if_neg (by decide)]
  unfold mX9_withoutText
  rw [show mX11_at 4 (1 : Int32) fa = fa 1 from s_at 4 1 (by decide) (by decide) fa, show mX11_at 4 (2 : Int32) fa = fa 2 from s_at 4 2 (by decide) (by decide) fa]
  by_cases h2 : w = 2
  · rw [if_pos h2, if_pos (show nI w = 2 by rw [h2]; rfl)]
  · rw [if_neg h2, if_neg (show ¬ nI w = 2 from fun z => h2 ((nI_eq (b := 2) (by omega) (by decide)).mp z))]
theorem kB_n {x : Nat} (h : x ≤ 1000000) : kB (nI x) := by
  unfold kB
  rw [nI_toInt (by omega)]
  omega
/-- whether a new train begins -/
def cE (code cf cl : Nat → Int32) (E : Nat → Nat → Nat → Nat → Bool) : Prop := ∀ a z c d : Nat, a ≤ 1000 → z ≤ 1000 → c ≤ 1000 → d ≤ 4000 → ∀ fa : Nat → Int32, fa 0 = nI a → fa 1 = nI z → fa 2 = nI c → fa 3 = nI d →
  ∀ (tp : Int32) (sk : Nat → Int32), ∃ x tp' sk', mX9_run 1 tp fa sk code cf cl = (x, tp', sk') ∧ (x = 0 ↔ E a z c d = false)
def rE (b : Nat) (sf sb cs cv : Nat → Int32) (E : Nat → Nat → Nat → Nat → Bool) : Prop := ∀ a z c d : Nat, a ≤ 1000 → z ≤ 1000 → c ≤ 1000 → d ≤ 4000 →
  ((sf (3 * b + 1) = -1 ∧ (3 < c ↔ E a z c d = true)) ∨ (¬ sf (3 * b + 1) = -1 ∧ ∀ (sk : Nat → Int64) (ask : Nat → Int32), ask 1 = nI a → ask 5 = nI z → ask 6 = nI c → ask 7 = nI d → ∃ y sk', mX12_reckons 1 (nI b) sf sb cs cv sk ask = some (y, sk') ∧ (y = 1 ↔ E a z c d = true)))
theorem fxi_4 {s : Nat} (h1 : 1 ≤ s) (h7 : s ≤ 7) : fxi s < 4 := by
  unfold fxi
  split <;> omega
theorem fa4_eq {fa : Nat → Int32} {a z c d : Int32} (h0 : fa 0 = a) (h1 : fa 1 = z) (h2 : fa 2 = c) (h3 : fa 3 = d) {j : Nat} (hj : j < 4) : fa j = fa4 a z c d j := by
  unfold fa4
  by_cases e0 : j = 0
  · rw [if_pos e0, e0, h0]
  · rw [if_neg e0]
    by_cases e1 : j = 1
    · rw [if_pos e1, e1, h1]
    · rw [if_neg e1]
      by_cases e2 : j = 2
      · rw [if_pos e2, e2, h2]
      · rw [if_neg e2, show j = 3 by omega, h3]
theorem to64_k {r : Int32} (h : kT r) : (r.toInt64 = 1 ↔ ¬ r = 0) := by
  rcases h with e | e <;> subst e <;> decide
theorem to64_c {r : Int32} (h : kB r) : (if r.toInt64 < 0 then 0 else if 99 < r.toInt64 then 99 else r.toInt64.toInt32) = (if r < 0 then 0 else if 99 < r then 99 else r) ∧ ∃ q, q ≤ 99 ∧ (if r < 0 then 0 else if 99 < r then 99 else r) = nI q := by
  have e1 : r.toInt64 < 0 ↔ r < 0 := fa_wide_lt r 0
  have e2 : (99 : Int64) < r.toInt64 ↔ 99 < r := fa_wide_lt 99 r
  by_cases a : r < 0
  · rw [if_pos a, if_pos (e1.mpr a)]; exact ⟨rfl, 0, by omega, rfl⟩
  · rw [if_neg a, if_neg (fun q => a (e1.mp q))]
    by_cases b : 99 < r
    · rw [if_pos b, if_pos (e2.mpr b)]; exact ⟨rfl, 99, by omega, rfl⟩
    · rw [if_neg b, if_neg (fun q => b (e2.mp q))]
      obtain ⟨j, hj, e⟩ := nI_of a
      refine ⟨by simp, j, ?_, e⟩
      rw [e] at b
      have : ¬ 99 < j := fun q => b (nI_lt (a := 99) q hj)
      omega
/-- the formulas of a text, for both sides -/
theorem f_all (hO : nOkP P L) (hL : L.length ≤ 1600) (I : nInv P L) (hc : cPl P L un ch sm th rn cd nmc sz bg lc ln rr co cf cl du) (hR : rPl tx n b P L CS0 CV0 trd cds TT nm) (hb : b < 2) :
    ∃ (G : GP) (E : Nat → Nat → Nat → Nat → Bool), G.2.2 = P 0 0 ∧ cF co cf cl G ∧ rF b (TT 9) (TT 10) (TT 11) (TT 12) G ∧ cE co cf cl E ∧ rE b (TT 9) (TT 10) (TT 11) (TT 12) E := by
  -- one formula: its worth by four facts
  have one : ∀ w, w < 3 → ∃ X : Nat → Nat → Nat → Nat → Int32,
      (P 9 w ≠ 0 → ¬ TT 9 (3 * b + w) = -1) ∧ (P 9 w = 0 → TT 9 (3 * b + w) = -1) ∧
      (∀ a z c d, a ≤ 1000000 → z ≤ 1000000 → c ≤ 1000000 → d ≤ 1000000 → (P 9 w ≠ 0 → kB (X a z c d) ∧ (w ≠ 2 → kT (X a z c d))) ∧ (P 9 w = 0 → X a z c d = if w = 2 then nI z else if 3 < nI c then 1 else 0) ∧
        (∀ fa : Nat → Int32, fa 0 = nI a → fa 1 = nI z → fa 2 = nI c → fa 3 = nI d → ∀ tp sk, ∃ tp' sk', mX9_run (nI w) tp fa sk co cf cl = (X a z c d, tp', sk')) ∧
        (P 9 w ≠ 0 → ∀ ask : Nat → Int32, (∀ s, 1 ≤ s → s ≤ 7 → (if w = 1 then s = 1 ∨ 5 ≤ s else s ≤ 4) → ask s = fa4 (nI a) (nI z) (nI c) (nI d) (fxi s)) → ∀ sk, ∃ sk', mX12_reckons (nI w) (nI b) (TT 9) (TT 10) (TT 11) (TT 12) sk ask = some ((X a z c d).toInt64, sk'))) := by
    intro w hw
    by_cases h9 : P 9 w = 0
    · refine ⟨fun a z c d => if w = 2 then nI z else if 3 < nI c then 1 else 0, fun q => absurd h9 q, fun _ => (f_none hc hR hw h9 0 (fun _ => 0) (fun _ => 0)).1, fun a z c d _ _ _ _ => ⟨fun q => absurd h9 q, fun _ => rfl, fun fa f0 f1 f2 f3 tp sk => ?_, fun q => absurd h9 q⟩⟩
      have := (f_none hc hR hw h9 tp fa sk).2
      rw [f1, f2] at this
      exact ⟨_, _, this⟩
    · have ft := f_told hL I hc hR hb hw h9
      refine ⟨fun a z c d => (mX9_run (nI w) 0 (fa4 (nI a) (nI z) (nI c) (nI d)) (fun _ => 0) co cf cl).1, fun _ => ft.1, fun q => absurd q h9, fun a z c d ha hz hc' hd => ?_⟩
      have kb : ∀ j, j < 4 → kB (fa4 (nI a) (nI z) (nI c) (nI d) j) := fun j hj => by
        unfold fa4
        refine ite_ex (Q := kB) (kB_n ha) (ite_ex (Q := kB) (kB_n hz) (ite_ex (Q := kB) (kB_n hc') (kB_n hd)))
      obtain ⟨r, r1, r2, r3, r4⟩ := ft.2 (fa4 (nI a) (nI z) (nI c) (nI d)) (fun s => fa4 (nI a) (nI z) (nI c) (nI d) (fxi s)) kb (fun s _ _ _ => rfl)
      have er : (mX9_run (nI w) 0 (fa4 (nI a) (nI z) (nI c) (nI d)) (fun _ => 0) co cf cl).1 = r := by
        obtain ⟨_, _, e⟩ := r3 0 (fun _ => 0)
        rw [e]
      dsimp only
      rw [er]
      refine ⟨fun _ => ⟨r1, r2⟩, fun q => absurd q h9, fun fa f0 f1 f2 f3 tp sk => ?_, fun _ ask hask sk => ?_⟩
      · have ag : ∀ j, j < 4 → fa j = fa4 (nI a) (nI z) (nI c) (nI d) j := fun j hj => fa4_eq f0 f1 f2 f3 hj
        obtain ⟨r', s1, s2, s3, s4⟩ := ft.2 fa (fun s => fa4 (nI a) (nI z) (nI c) (nI d) (fxi s)) (fun j hj => by rw [ag j hj]; exact kb j hj) (fun s h1 h7 _ => (ag _ (fxi_4 h1 h7)).symm)
        obtain ⟨_, x1⟩ := s4 (fun _ => 0)
        obtain ⟨_, x2⟩ := r4 (fun _ => 0)
        rw [x1] at x2
        injection x2 with x2
        injection x2 with x2 _
        rw [← to64_inj x2]
        exact s3 tp sk
      · obtain ⟨r', s1, s2, s3, s4⟩ := ft.2 (fa4 (nI a) (nI z) (nI c) (nI d)) ask kb hask
        obtain ⟨_, _, e⟩ := s3 0 (fun _ => 0)
        rw [e] at er
        have er' : r' = r := er
        rw [← er']
        exact s4 sk
  obtain ⟨X0, a1, a2, a3⟩ := one 0 (by decide)
  obtain ⟨X1, b1, b2, b3⟩ := one 1 (by decide)
  obtain ⟨X2, c1, c2, c3⟩ := one 2 (by decide)
  have q2 : ∀ a z c d : Nat, a ≤ 1000 → z ≤ 99 → c ≤ 200 → d ≤ 99 → ∃ q, q ≤ 99 ∧ (if X2 a z c d < 0 then 0 else if 99 < X2 a z c d then 99 else X2 a z c d) = nI q := by
    intro a z c d ha hz hc' hd
    obtain ⟨k1, k2, k3, k4⟩ := c3 a z c d (by omega) (by omega) (by omega) (by omega)
    by_cases h9 : P 9 2 = 0
    · rw [k2 h9, if_pos rfl, if_neg (nI_pos (by omega)), if_neg (show ¬ (99 : Int32) < nI z from nI_nlt (b := z) (a := 99) hz (by decide))]
      exact ⟨z, hz, rfl⟩
    · exact (to64_c (k1 h9).1).2
  let N2 : Nat → Nat → Nat → Nat → Nat := fun a z c d => (if X2 a z c d < 0 then 0 else if 99 < X2 a z c d then 99 else X2 a z c d).toNatClampNeg
  have n2 : ∀ a z c d : Nat, a ≤ 1000 → z ≤ 99 → c ≤ 200 → d ≤ 99 → N2 a z c d ≤ 99 ∧ (if X2 a z c d < 0 then 0 else if 99 < X2 a z c d then 99 else X2 a z c d) = nI (N2 a z c d) := by
    intro a z c d ha hz hc' hd
    obtain ⟨q, h1, h2⟩ := q2 a z c d ha hz hc' hd
    have e : N2 a z c d = q := by
      show (if X2 a z c d < 0 then 0 else if 99 < X2 a z c d then 99 else X2 a z c d).toNatClampNeg = q
      rw [h2, nI_clamp (by omega)]
    rw [e]; exact ⟨h1, h2⟩
  refine ⟨(fun a z c d => decide (¬ X0 a z c d = 0), N2, P 0 0), fun a z c d => decide (¬ X1 a z c d = 0), rfl, fun a z c d ha hz hc' hd fa f0 f1 f2 f3 => ⟨fun tp sk => ?_, fun tp sk => ?_⟩, fun a z c d ha hz hc' hd => ⟨(n2 a z c d ha hz hc' hd).1, ?_, ?_⟩, fun a z c d ha hz hc' hd fa f0 f1 f2 f3 tp sk => ?_, fun a z c d ha hz hc' hd => ?_⟩
  · obtain ⟨_, _, e⟩ := (a3 a z c d (by omega) (by omega) (by omega) (by omega)).2.2.1 fa f0 f1 f2 f3 tp sk
    refine ⟨_, _, _, e, ?_⟩
    show X0 a z c d = 0 ↔ decide (¬ X0 a z c d = 0) = false
    rw [decide_eq_false_iff_not, Classical.not_not]
  · obtain ⟨_, _, e⟩ := (c3 a z c d (by omega) (by omega) (by omega) (by omega)).2.2.1 fa f0 f1 f2 f3 tp sk
    exact ⟨_, _, _, e, (n2 a z c d ha hz hc' hd).2⟩
  · obtain ⟨k1, k2, k3, k4⟩ := a3 a z c d (by omega) (by omega) (by omega) (by omega)
    by_cases h9 : P 9 0 = 0
    · refine Or.inl ⟨a2 h9, ?_⟩
      show 3 < c ↔ decide (¬ X0 a z c d = 0) = true
      rw [decide_eq_true_iff, k2 h9, if_neg (by decide)]
      by_cases q : 3 < c
      · rw [if_pos (show (3 : Int32) < nI c from nI_lt (a := 3) q (by omega))]; exact ⟨fun _ => by decide, fun _ => q⟩
      · rw [if_neg (show ¬ (3 : Int32) < nI c from nI_nlt (b := c) (a := 3) (by omega) (by decide))]; exact ⟨fun h => absurd h q, fun h => absurd rfl h⟩
    · refine Or.inr ⟨a1 h9, fun sk ask h1 h2 h3 h4 => ?_⟩
      obtain ⟨sk', e⟩ := k4 h9 ask (fun s s1 s7 s4 => by
        rw [if_neg (by decide)] at s4
        have : s = 1 ∨ s = 2 ∨ s = 3 ∨ s = 4 := by omega
        rcases this with q | q | q | q <;> subst q
        · exact h1
        · exact h2
        · exact h3
        · exact h4) sk
      refine ⟨_, sk', e, ?_⟩
      show (X0 a z c d).toInt64 = 1 ↔ decide (¬ X0 a z c d = 0) = true
      rw [decide_eq_true_iff]
      exact to64_k ((k1 h9).2 (by decide))
  · obtain ⟨k1, k2, k3, k4⟩ := c3 a z c d (by omega) (by omega) (by omega) (by omega)
    by_cases h9 : P 9 2 = 0
    · refine Or.inl ⟨c2 h9, ?_⟩
      have := (n2 a z c d ha hz hc' hd).2
      rw [k2 h9, if_pos rfl, if_neg (nI_pos (by omega)), if_neg (show ¬ (99 : Int32) < nI z from nI_nlt (b := z) (a := 99) hz (by decide))] at this
      have l := (n2 a z c d ha hz hc' hd).1
      exact ((nI_eq (by omega) (by omega)).mp this).symm
    · refine Or.inr ⟨c1 h9, fun sk ask h1 h2 h3 h4 => ?_⟩
      obtain ⟨sk', e⟩ := k4 h9 ask (fun s s1 s7 s4 => by
        rw [if_neg (by decide)] at s4
        have : s = 1 ∨ s = 2 ∨ s = 3 ∨ s = 4 := by omega
        rcases this with q | q | q | q <;> subst q
        · exact h1
        · exact h2
        · exact h3
        · exact h4) sk
      refine ⟨_, sk', e, ?_⟩
      rw [(to64_c (k1 h9).1).1]
      exact (n2 a z c d ha hz hc' hd).2
  · obtain ⟨_, _, e⟩ := (b3 a z c d (by omega) (by omega) (by omega) (by omega)).2.2.1 fa f0 f1 f2 f3 tp sk
    refine ⟨_, _, _, e, ?_⟩
    rw [decide_eq_false_iff_not, Classical.not_not]
  · obtain ⟨k1, k2, k3, k4⟩ := b3 a z c d (by omega) (by omega) (by omega) (by omega)
    by_cases h9 : P 9 1 = 0
    · refine Or.inl ⟨b2 h9, ?_⟩
      rw [decide_eq_true_iff, k2 h9, if_neg (by decide)]
      by_cases q : 3 < c
      · rw [if_pos (show (3 : Int32) < nI c from nI_lt (a := 3) q (by omega))]; exact ⟨fun _ => by decide, fun _ => q⟩
      · rw [if_neg (show ¬ (3 : Int32) < nI c from nI_nlt (b := c) (a := 3) (by omega) (by decide))]; exact ⟨fun h => absurd h q, fun h => absurd rfl h⟩
    · refine Or.inr ⟨b1 h9, fun sk ask h1 h2 h3 h4 => ?_⟩
      obtain ⟨sk', e⟩ := k4 h9 ask (fun s s1 s7 s4 => by
        rw [if_pos rfl] at s4
        have : s = 1 ∨ s = 5 ∨ s = 6 ∨ s = 7 := by omega
        rcases this with q | q | q | q <;> subst q
        · exact h1
        · exact h2
        · exact h3
        · exact h4) sk
      refine ⟨_, sk', e, ?_⟩
      rw [decide_eq_true_iff]
      exact to64_k ((k1 h9).2 (by decide))
end FM
