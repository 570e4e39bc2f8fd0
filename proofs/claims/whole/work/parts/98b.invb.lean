/-- the units stay -/
def nU (U : Nat) (r : NS) : Prop := r.1 = 0 → r.2.2.2.1 0 0 = U
theorem nU_b {U f p : Nat} {P : NP} (h : f ≠ 0) : nU U (sBad f p P) := fun e => absurd e h
section UV
variable {K V St : Nat → Nat} {P : NP} {L : List (Nat × Nat)} {k U : Nat}
theorem nU_num {lo hi : Nat} {r : Nat → NS} (h : ∀ v, nU U (r v)) : nU U (nNum K V St k lo hi r P) := ite_ex (Q := nU U) (ite_ex (Q := nU U) (nU_b (by decide)) (h _)) (nU_b (by decide))
theorem nU_own {w : Nat} {r : NS} (h : nU U r) : nU U (nOwn K V St k w r P) := ite_ex (Q := nU U) h (nU_b (by decide))
theorem nU_sgn {w : Nat} {r : NS} (h : nU U r) : nU U (nSgn K V St k w r P) := ite_ex (Q := nU U) h (nU_b (by decide))
theorem nU_known {r : Nat → NS} (h : ∀ a, nU U (r a)) : nU U (nKnown K V St k P r) := ite_ex (Q := nU U) (ite_ex (Q := nU U) (nU_b (by decide)) (h _)) (nU_b (by decide))
theorem nU_form (w : Nat) : nU (P 0 0) (nForm K V St w k P L) := by
  unfold nForm
  refine ite_ex (Q := nU (P 0 0)) (nU_b (by decide)) ?_
  dsimp only
  by_cases e : (gRec K V St w 60 (if w = 2 then 2 else 1) 0 (k + 1) 0).1 = 0
  · rw [if_pos e]; exact fun _ => rfl
  · rw [if_neg e]; exact nU_b e
theorem nU_tell (h0 : gOw K V k 0 = false) : nU (P 0 0) (nTell K V St k P L) := by
  unfold nTell
  rw [if_neg (by rw [h0]; decide)]
  refine ite_ex (Q := nU (P 0 0)) ?_ (ite_ex (Q := nU (P 0 0)) ?_ (ite_ex (Q := nU (P 0 0)) ?_ (ite_ex (Q := nU (P 0 0)) ?_ (ite_ex (Q := nU (P 0 0)) ?_ (ite_ex (Q := nU (P 0 0)) (nU_form 0) (ite_ex (Q := nU (P 0 0)) (nU_form 1) (ite_ex (Q := nU (P 0 0)) (nU_form 2) (nU_b (by decide)))))))))
  · unfold nThing
    exact ite_ex (Q := nU (P 0 0)) (nU_b (by decide)) (ite_ex (Q := nU (P 0 0)) (ite_ex (Q := nU (P 0 0)) (nU_own (nU_num (fun v => fun _ => rfl))) (nU_b (by decide))) (nU_b (by decide)))
  · exact fun _ => rfl
  · unfold nLink
    exact nU_known (fun a => ite_ex (Q := nU (P 0 0)) (nU_b (by decide)) (nU_own (nU_known (fun b => fun _ => rfl))))
  · unfold nRoot
    exact ite_ex (Q := nU (P 0 0)) (nU_b (by decide)) (nU_known (fun a => fun _ => rfl))
  · exact nU_num (fun v => fun _ => rfl)
theorem nU_stat : nU (P 0 0) (nStat K V St false k P L) := by
  unfold nStat
  by_cases h0 : gOw K V k 0 = false
  · rw [if_pos h0]
    have t := nU_tell (St := St) (P := P) (L := L) h0
    dsimp only
    by_cases e : (nTell K V St k P L).1 = 0
    · rw [if_pos e]
      exact nU_sgn (fun _ => t e)
    · rw [if_neg e]; exact fun q => absurd q e
  · rw [if_neg h0]; exact nU_b (by decide)
end UV
section UW
variable {tx : Nat → Nat} {n B : Nat}
theorem tV_num (hb : ∀ i, i < n → tx i < 256) {k : Nat} (h : tK tx n k = 2) : tV tx n k < 10000 := by
  unfold tK lKd at h
  by_cases a : lAt tx n k < n
  · rw [if_pos a] at h
    by_cases b : lBad tx n (lAt tx n k) = 0
    · rw [if_pos b] at h
      by_cases c : lLt (tx (lAt tx n k)) = true
      · rw [if_pos c] at h
        by_cases d : lOn tx n (lAt tx n k) = 0
        · rw [if_pos d] at h; omega
        · rw [if_neg d] at h; omega
      · rw [if_neg c] at h
        by_cases d : lDg (tx (lAt tx n k)) = true
        · unfold tV lVl
          rw [if_pos a, if_pos b, if_neg c, if_pos d]
          generalize hj : lAt tx n k = j at *
          have hw : (lLt (tx j) || lDg (tx j)) = true := by rw [d, Bool.or_true]
          have l4 : lEnd tx n j - j ≤ 4 := by
            unfold lBad at b
            rw [if_pos a] at b
            by_cases e : lAdj tx j = true
            · rw [if_pos e] at b; omega
            · rw [if_neg e] at b
              have m4 : lMost tx j = 4 := if_neg c
              by_cases f : (lLt (tx j) || lDg (tx j)) = true ∧ j + lMost tx j < lEnd tx n j
              · rw [if_pos f] at b; omega
              · have : ¬ (j + lMost tx j < lEnd tx n j) := fun q => f ⟨hw, q⟩
                omega
          have run := lEnd_run tx n j a hw
          have pr : lPr tx j = lDg := if_neg c
          have dig : ∀ i, i < lEnd tx n j - j → lDg (tx (j + i)) = true := fun i hi => by
            have := lRun_in tx (lPr tx j) (n - j) j (j + i) (by omega) (by omega)
            rw [pr] at this
            exact this
          have e1 : lNm (fun i => tx (j + i)) (lEnd tx n j - j) = lNm (fun i => if i < lEnd tx n j - j then tx (j + i) else 48) (lEnd tx n j - j) := by
            have cg : ∀ (f g : Nat → Nat) m, (∀ i, i < m → f i = g i) → lNm f m = lNm g m := by
              intro f g m
              induction m with
              | zero => intro _; rfl
              | succ m ih => intro h; rw [lNm, lNm, ih (fun i hi => h i (by omega)), h m (by omega)]
            exact cg _ _ _ (fun i hi => by show tx (j + i) = if i < lEnd tx n j - j then tx (j + i) else 48; rw [if_pos hi])
          have e2 := lNm_lt (fun i => if i < lEnd tx n j - j then tx (j + i) else 48) (fun i => by
            show lDg (if i < lEnd tx n j - j then tx (j + i) else 48) = true
            by_cases q : i < lEnd tx n j - j
            · rw [if_pos q]; exact dig i q
            · rw [if_neg q]; decide) (lEnd tx n j - j)
          have e3 : 10 ^ (lEnd tx n j - j) ≤ 10 ^ 4 := Nat.pow_le_pow_right (by decide) l4
          rw [e1]
          have e4 : 10 ^ 4 = 10000 := by decide
          omega
        · rw [if_neg d] at h; omega
    · rw [if_neg b] at h; omega
  · rw [if_neg a] at h; omega
theorem nGood_read (hn : n ≤ 1600) (hb : ∀ i, i < n → tx i < 256) (hB1 : ∀ k, k < B → 2 ≤ tK tx n k) (hBe : tK tx n B < 2) (hB2 : B ≤ 1600) : ∀ (f m k : Nat) (P : NP) (L : List (Nat × Nat)), 1 ≤ m → P 0 2 = m → nOkP P L → nInv P L → k ≤ B → L.length ≤ k → m ≤ 80 → (nRead (tK tx n) (tV tx n) (tS tx n) f m k P L).1 = 0 → nInv (nRead (tK tx n) (tV tx n) (tS tx n) f m k P L).2.2.2.1 (nRead (tK tx n) (tV tx n) (tS tx n) f m k P L).2.2.2.2 ∧ (nRead (tK tx n) (tV tx n) (tS tx n) f m k P L).2.2.2.1 0 0 = P 0 0 := by
  intro f
  induction f with
  | zero => intro m k P L _ _ _ I _ _ _ _; exact ⟨I, rfl⟩
  | succ f ih =>
    intro m k P L h1 h2 hP I hk hL h80
    rw [nRead]
    by_cases e0 : tK tx n k = 0
    · rw [if_pos e0]; exact fun _ => ⟨I, rfl⟩
    rw [if_neg e0]
    by_cases e8 : m = 80
    · rw [if_pos e8]; exact fun q => absurd q (show ¬ (6 : Nat) = 0 by decide)
    rw [if_neg e8, show decide (m = 0) = false from decide_eq_false (by omega)]
    have ok := nStat_ok hn hb hB1 hBe hB2 hP (by omega) hk hL false
    have gd := nGood_stat (K := tK tx n) (V := tV tx n) (St := tS tx n) (k := k) (fun k hk => tV_num hb hk) hP I
    have un := nU_stat (K := tK tx n) (V := tV tx n) (St := tS tx n) (P := P) (L := L) (k := k)
    dsimp only
    by_cases e : (nStat (tK tx n) (tV tx n) (tS tx n) false k P L).1 = 0
    · rw [if_pos e]
      intro q
      obtain ⟨a, b, c, d⟩ := ok.1 e
      have r := ih (m + 1) _ _ _ (by omega) (by rw [d, h2]) c (gd e) a b (by omega) q
      exact ⟨r.1, r.2.trans (un e)⟩
    · rw [if_neg e]; exact fun q => absurd q e
/-- what a whole text tells -/
theorem nAll_inv (hn : n ≤ 1600) (hb : ∀ i, i < n → tx i < 256) (hB1 : ∀ k, k < B → 2 ≤ tK tx n k) (hBe : tK tx n B < 2) (hB2 : B ≤ 1600) (h : (nAll (tK tx n) (tV tx n) (tS tx n) n).1 = 0) : nInv (nAll (tK tx n) (tV tx n) (tS tx n) n).2.2.2.1 (nAll (tK tx n) (tV tx n) (tS tx n) n).2.2.2.2 ∧ 8 ≤ (nAll (tK tx n) (tV tx n) (tS tx n) n).2.2.2.1 0 0 := by
  have hP0 : nOkP nP0 [] := ⟨Nat.zero_le _, Nat.zero_le _, Nat.zero_le _, Nat.zero_le _, Nat.zero_le _, Nat.zero_le _, fun _ => by show (0 : Nat) < 1000000000; decide, fun _ => Nat.zero_le _, fun _ => Nat.zero_le _, fun _ => Nat.zero_le _, fun _ _ => ⟨Nat.zero_le _, Nat.zero_le _⟩⟩
  have ok := nStat_ok (P := nP0) (L := []) (k := 0) hn hb hB1 hBe hB2 hP0 (by decide) (Nat.zero_le B) (Nat.zero_le 0) true
  have nr : nRead (tK tx n) (tV tx n) (tS tx n) 81 0 0 nP0 [] = if tK tx n 0 = 0 then sOk 0 nP0 [] else (if (nStat (tK tx n) (tV tx n) (tS tx n) true 0 nP0 []).1 = 0 then nRead (tK tx n) (tV tx n) (tS tx n) 80 1 (nStat (tK tx n) (tV tx n) (tS tx n) true 0 nP0 []).2.2.1 (nStat (tK tx n) (tV tx n) (tS tx n) true 0 nP0 []).2.2.2.1 (nStat (tK tx n) (tV tx n) (tS tx n) true 0 nP0 []).2.2.2.2 else nStat (tK tx n) (tV tx n) (tS tx n) true 0 nP0 []) := by
    rw [nRead]
    rfl
  have st : (nStat (tK tx n) (tV tx n) (tS tx n) true 0 nP0 []).1 = 0 → ∃ v, 8 ≤ v ∧ nStat (tK tx n) (tV tx n) (tS tx n) true 0 nP0 [] = sOk 3 (gset (gset nP0 0 0 v) 0 2 1) [] := by
    unfold nStat
    by_cases g0 : gOw (tK tx n) (tV tx n) 0 0 = true
    · rw [if_pos g0]
      unfold nTell
      rw [if_pos g0]
      unfold nNum
      by_cases k2 : tK tx n (0 + 1) = 2
      · rw [if_pos k2]
        by_cases q : tV tx n (0 + 1) < 8 ∨ 99 < tV tx n (0 + 1)
        · rw [if_pos q]; exact fun z => absurd z (show ¬ (4 : Nat) = 0 by decide)
        · rw [if_neg q]
          show (nSgn (tK tx n) (tV tx n) (tS tx n) 2 59 (sOk 3 (gset (gset nP0 0 0 (tV tx n 1)) 0 2 1) []) (gset nP0 0 0 (tV tx n 1))).1 = 0 → ∃ v, 8 ≤ v ∧ nSgn (tK tx n) (tV tx n) (tS tx n) 2 59 (sOk 3 (gset (gset nP0 0 0 (tV tx n 1)) 0 2 1) []) (gset nP0 0 0 (tV tx n 1)) = _
          unfold nSgn
          by_cases s : gSg (tK tx n) (tV tx n) 2 59 = true
          · rw [if_pos s]; exact fun _ => ⟨tV tx n 1, by show 8 ≤ tV tx n (0 + 1); omega, rfl⟩
          · rw [if_neg s]; exact fun z => absurd z (show ¬ (1 : Nat) = 0 by decide)
      · rw [if_neg k2]; exact fun z => absurd z (show ¬ (1 : Nat) = 0 by decide)
    · rw [if_neg g0]; exact fun z => absurd z (show ¬ (1 : Nat) = 0 by decide)
  have fin : ∀ r : NS, (nFin n r).1 = 0 → r.1 = 0 ∧ r.2.2.2.1 0 2 ≠ 0 ∧ nFin n r = r := fun r hr => by
    unfold nFin at hr ⊢
    by_cases a : r.1 = 0
    · rw [if_pos a] at hr ⊢
      by_cases b : r.2.2.2.1 0 2 = 0
      · rw [if_pos b] at hr; exact absurd hr (show ¬ (1 : Nat) = 0 by decide)
      · rw [if_neg b]; exact ⟨a, b, rfl⟩
    · rw [if_neg a] at hr; exact absurd hr a
  rw [nAll_1] at h ⊢
  obtain ⟨f1, f2, f3⟩ := fin _ h
  rw [f3]
  rw [nr] at f1 f2 ⊢
  by_cases k0 : tK tx n 0 = 0
  · rw [if_pos k0] at f2
    exact absurd rfl f2
  rw [if_neg k0] at f1 f2 ⊢
  by_cases e : (nStat (tK tx n) (tV tx n) (tS tx n) true 0 nP0 []).1 = 0
  · rw [if_pos e] at f1 f2 ⊢
    obtain ⟨a, b, c, d⟩ := ok.1 e
    obtain ⟨v, hv, ev⟩ := st e
    rw [ev] at a b c f1 f2 ⊢
    have I1 : nInv (gset (gset nP0 0 0 v) 0 2 1) [] := ⟨fun t ht => absurd (show t < 0 from ht) (Nat.not_lt_zero _), fun t q hq => ⟨Nat.zero_le _, show q < 0 ↔ 1 ≤ 0 by omega⟩, fun t _ => rfl, fun q => ⟨Nat.zero_le _, show q < 0 ↔ 1 ≤ 0 by omega⟩, fun w hw h9 => absurd rfl h9⟩
    have r := nGood_read hn hb hB1 hBe hB2 80 1 3 (gset (gset nP0 0 0 v) 0 2 1) [] (by decide) rfl c I1 a b (by decide) f1
    exact ⟨r.1, by rw [show (nRead (tK tx n) (tV tx n) (tS tx n) 80 1 (sOk 3 (gset (gset nP0 0 0 v) 0 2 1) []).2.2.1 (sOk 3 (gset (gset nP0 0 0 v) 0 2 1) []).2.2.2.1 (sOk 3 (gset (gset nP0 0 0 v) 0 2 1) []).2.2.2.2).2.2.2.1 0 0 = v from r.2]; exact hv⟩
  · rw [if_neg e] at f1; exact absurd f1 e
end UW
