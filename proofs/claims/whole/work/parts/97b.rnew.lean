section RN
variable {g : GH} {t z w U v b : Nat} {K : GK} {so sz tr ca pl ag mk lk rt km kr ut : Nat → Int32}
/-- the reference clears one that isn't there -/
theorem r_clr (hv : v < 22) (W : gW g) (ht : t < 40) (h0 : g 0 t = 0) (S : rS v g K so sz tr ca pl ag mk lk rt km kr) : ∃ lk', mX12_clears (nI v) (nI t) sz tr ca pl ag mk lk = some (upd sz (40 * v + t) 0, upd tr (40 * v + t) (-1), upd ca (40 * v + t) (-1), upd pl (40 * v + t) (-1), upd ag (40 * v + t) 0, upd mk (40 * v + t) 0, lk') ∧ lG v lk lk' ∧ rS v g K so (upd sz (40 * v + t) 0) (upd tr (40 * v + t) (-1)) (upd ca (40 * v + t) (-1)) (upd pl (40 * v + t) (-1)) (upd ag (40 * v + t) 0) (upd mk (40 * v + t) 0) lk' rt km kr := by
  obtain ⟨lk', e1, e2⟩ := r_clears (sz := sz) (tr := tr) (ca := ca) (pl := pl) (ag := ag) (mk := mk) (lk := lk) hv ht
  obtain ⟨s1, s2, s3⟩ := S
  refine ⟨lk', e2, fun j hj => ?_, fun st sT hst => ?_, s2, s3⟩
  · rw [e1, if_neg (by omega)]
  · have M := s1 st sT hst
    refine ⟨fun u hu => ?_, fun u hu p => ?_, M.2.2.1, fun j hj => ?_, M.2.2.2.2⟩
    · by_cases e : u = t
      · subst e; rw [pk_us, h0]; exact ⟨rfl, (M.1 u hu).2⟩
      · rw [pk_un (by omega)]; exact M.1 u hu
    · have e : u ≠ t := fun e => by subst e; omega
      rw [pk_un (by omega), pk_un (by omega), pk_un (by omega), pk_un (by omega), pk_un (by omega)]
      exact M.2.1 u hu p
    · rw [e1]
      by_cases q : 4 * (40 * v + t) ≤ 160 * v + j ∧ 160 * v + j < 4 * (40 * v + t) + 4
      · rw [if_pos q]
        have := W.2.2.2.2.2.2 t ht h0 (j - 4 * t) (by omega)
        rw [show 4 * t + (j - 4 * t) = j by omega] at this
        rw [this]; rfl
      · rw [if_neg q]; exact M.2.2.2.1 j hj
/-- the reference lays a new thing -/
theorem r_new (hv : v < 22) (hb : b < 2) (W : gW g) (ht : t < 40) (h0 : g 0 t = 0) (hz : 1 ≤ z) (hz2 : z ≤ 99) (hw : w ≤ 40) (hU : ut b = nI U) (hU2 : U < 1000) (S : rS v g K so sz tr ca pl ag mk lk rt km kr) (ha : ag (40 * v + t) = 0) (hm : mk (40 * v + t) = 0) :
    ∃ (tr' ca' pl' : Nat → Int32), mX12_lays (nI v) (nI t) (nI w) (nI b) ut (upd sz (40 * v + t) (nI z)) tr ca pl = some (tr', ca', pl') ∧ lF v tr tr' ∧ lF v ca ca' ∧ lF v pl pl' ∧ rS v (gNew g t z w U) K so (upd sz (40 * v + t) (nI z)) tr' ca' pl' ag mk lk rt km kr := by
  obtain ⟨s1, s2, s3⟩ := S
  have M0 := s1 (fun _ => 0) (fun _ => 0) (fun _ _ => rfl)
  have key : ∀ u, u < 40 → ((0 < gZs g t z 0 u ∧ u ≠ t ∧ tr (40 * v + u) = nI w) ↔ (0 < gZs g t z 0 u ∧ u ≠ t ∧ gZs g t z 1 u = w)) := by
    intro u hu
    rw [gZs_o (a := 1) (Or.inr (by decide))]
    constructor
    · rintro ⟨a, c, d⟩
      have p := (gZs_00 (z := z) h0 u).mp ⟨a, c⟩
      have := gW_lt W hu p
      rw [(M0.2.1 u hu p).1, nI_eq (by omega) (by omega)] at d
      exact ⟨a, c, d⟩
    · rintro ⟨a, c, d⟩
      have p := (gZs_00 (z := z) h0 u).mp ⟨a, c⟩
      exact ⟨a, c, by rw [(M0.2.1 u hu p).1, d]⟩
  have L := s_lays v hv (upd sz (40 * v + t) (nI z)) tr ca pl t ht w (by omega) b U hb ut hU hU2 (gZs g t z 0) (gZs g t z 2)
    (fun u hu => by
      by_cases e : u = t
      · subst e; rw [pk_us, gZs_0]
      · rw [pk_un (by omega), gZs_o (Or.inl e)]; exact (M0.1 u hu).1)
    (fun u hu => by
      by_cases e : u = t
      · subst e; rw [gZs_0]; omega
      · rw [gZs_o (Or.inl e)]; have := (W.1 u hu).1; omega)
    (fun u hu p e _ => by
      have p' := (gZs_00 (z := z) h0 u).mp ⟨p, e⟩
      rw [gZs_o (a := 2) (Or.inr (by decide))]
      exact ⟨(M0.2.1 u hu p').2.1, by have := gW_lt W hu p'; omega⟩)
  have eN : bmx (fun u => decide (0 < gZs g t z 0 u ∧ u ≠ t ∧ tr (40 * v + u) = nI w)) (gZs g t z 2) 40 = gNl (gZs g t z) t w := bmx_cong (fun u hu => by rw [decide_eq_decide]; exact key u hu) (fun _ _ _ => rfl)
  have eP : ∀ u, u < 40 → decide (0 < gZs g t z 0 u ∧ u ≠ t ∧ tr (40 * v + u) = nI w ∧ gZs g t z 2 u + 1 = gNl (gZs g t z) t w) = gLd (gZs g t z) t w u := by
    intro u hu
    unfold gLd
    rw [decide_eq_decide]
    have := key u hu
    constructor
    · rintro ⟨a, c, d, e⟩
      have := this.mp ⟨a, c, d⟩
      exact ⟨this.1, this.2.1, this.2.2, e⟩
    · rintro ⟨a, c, d, e⟩
      have := this.mpr ⟨a, c, d⟩
      exact ⟨this.1, this.2.1, this.2.2, e⟩
  simp only [eN] at L
  rw [fb_ct_cong (q := gLd (gZs g t z) t w) eP, fb_sm_cong (g := fun u => if gLd (gZs g t z) t w u = true then gZs g t z 0 u else 0) (fun u hu => by rw [eP u hu])] at L
  refine ⟨upd tr (40 * v + t) (nI w), upd ca (40 * v + t) (nI (gNc (gZs g t z) t w U)), upd pl (40 * v + t) (nI (gNp (gZs g t z) t w U)), L, lF_up _ ht _, lF_up _ ht _, lF_up _ ht _, fun st sT hst => ?_, s2, by rw [gNew_o (by decide)]; exact s3⟩
  have M := s1 st sT hst
  refine ⟨fun u hu => ?_, fun u hu p => ?_, fun u hu e => ?_, fun j hj => by rw [gNew_o (by decide)]; exact M.2.2.2.1 j hj, fun k hk => by rw [gNew_o (by decide)]; exact M.2.2.2.2 k hk⟩
  · rw [gNew_o (a := 9) (by decide)]
    by_cases e : u = t
    · subst e; rw [pk_us, gNew_0]; exact ⟨rfl, (M.1 u hu).2⟩
    · rw [pk_un (by omega), gNew_n e]; exact M.1 u hu
  · by_cases e : u = t
    · subst e
      rw [pk_us, pk_us, pk_us, gNew_1, gNew_2, gNew_3, gNew_4, gNew_5, ha, hm]
      exact ⟨rfl, rfl, rfl, rfl, rfl⟩
    · rw [gNew_n e] at p
      rw [pk_un (by omega), pk_un (by omega), pk_un (by omega), gNew_n e, gNew_n e, gNew_n e, gNew_n e, gNew_n e]
      exact M.2.1 u hu p
  · rw [gNew_o (by decide)] at e ⊢; exact M.2.2.1 u hu e
end RN
