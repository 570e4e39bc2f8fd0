/-- the reference's tests and sums answer so -/
def rF (b : Nat) (sf sb cs cv : Nat → Int32) (P : GP) : Prop := ∀ a z c d : Nat, a ≤ 1000 → z ≤ 99 → c ≤ 200 → d ≤ 99 →
  P.2.1 a z c d ≤ 99 ∧
  ((sf (3 * b) = -1 ∧ (3 < c ↔ P.1 a z c d = true)) ∨ (¬ sf (3 * b) = -1 ∧ ∀ (sk : Nat → Int64) (ask : Nat → Int32), ask 1 = nI a → ask 2 = nI z → ask 3 = nI c → ask 4 = nI d → ∃ y sk', mX12_reckons 0 (nI b) sf sb cs cv sk ask = some (y, sk') ∧ (y = 1 ↔ P.1 a z c d = true))) ∧
  ((sf (3 * b + 2) = -1 ∧ P.2.1 a z c d = z) ∨ (¬ sf (3 * b + 2) = -1 ∧ ∀ (sk : Nat → Int64) (ask : Nat → Int32), ask 1 = nI a → ask 2 = nI z → ask 3 = nI c → ask 4 = nI d → ∃ y sk', mX12_reckons 2 (nI b) sf sb cs cv sk ask = some (y, sk') ∧ (if y < 0 then 0 else if 99 < y then 99 else y.toInt32) = nI (P.2.1 a z c d)))
/-- other layers stay -/
def lF (v : Nat) (a a' : Nat → Int32) : Prop := ∀ i, i < 40 * v ∨ 40 * v + 40 ≤ i → a' i = a i
theorem lF_rf (v : Nat) (a : Nat → Int32) : lF v a a := fun _ _ => rfl
theorem lF_tr {v : Nat} {a b c : Nat → Int32} (h : lF v a b) (k : lF v b c) : lF v a c := fun i hi => (k i hi).trans (h i hi)
theorem lF_up {v : Nat} (a : Nat → Int32) {t : Nat} (ht : t < 40) (x : Int32) : lF v a (upd a (40 * v + t) x) := fun i hi => pk_un (by omega)
section SQ
variable {v b : Nat} {h : GH} {sz tr ca pl ag mk lk rt st sT so sf sb cs cv ut : Nat → Int32} {P : GP}
theorem r_told (hb : b < 2) (w : Nat) (hw : w < 3) : mX12_isTold (nI w) (nI b) sf = some (decide (¬ sf (3 * b + w) = -1)) := by
  unfold mX12_isTold
  rw [show (3 : Int32) * nI b + nI w = nI (3 * b + w) by rw [show (3 : Int32) = nI 3 from rfl, pk_mul, nI_add], zb _ 6 (by omega) (by decide), if_pos rfl, zc _ (by omega)]
  by_cases e : sf (3 * b + w) = -1
  · rw [if_pos e, decide_eq_false (fun q => q e)]
  · rw [if_neg e, decide_eq_true e]
theorem r_layT (hv : v < 22) (M : rM v h sz tr ca pl ag mk lk rt st sT) (N : iN h) (hs : so v = nI (h 8 0)) {t : Nat} (ht : t < 40) (hw : gWt h t = true) (ask : Nat → Int32) :
    ∃ ask', mX12_layThing (nI v) (nI t) so sz tr ca ag lk rt ask st = some ask' ∧ ask' 1 = nI (h 8 0) ∧ ask' 2 = nI (h 0 t) ∧ ask' 3 = nI (gRf h t) ∧ ask' 4 = nI (h 4 t) := by
  have w := (gWt_iff h t).mp hw
  unfold mX12_layThing
  rw [zb v 22 hv (by decide), if_pos rfl, zb_t v t hv ht, if_pos rfl, r_refs hv M N ht hw, obind, zc v (by omega), zc_t v t hv ht, hs, (M.1 t ht).1, (M.2.1 t ht w.1).2.2.2.1]
  refine ⟨_, rfl, ?_, ?_, ?_, ?_⟩
  · rw [pk_un (show (1 : Nat) ≠ _ by decide), pk_un (show (1 : Nat) ≠ _ by decide), pk_un (show (1 : Nat) ≠ _ by decide)]; exact pk_us
  · rw [pk_un (show (2 : Nat) ≠ _ by decide), pk_un (show (2 : Nat) ≠ _ by decide)]; exact pk_us
  · rw [pk_un (show (3 : Nat) ≠ _ by decide)]; exact pk_us
  · exact pk_us
theorem r_pop (hv : v < 22) (hb : b < 2) (hF : rF b sf sb cs cv P) (M : rM v h sz tr ca pl ag mk lk rt st sT) (N : iN h) (hs : so v = nI (h 8 0)) (hs2 : h 8 0 ≤ 1000) {t : Nat} (ht : t < 40) (hw : gWt h t = true) (sk : Nat → Int64) (ask : Nat → Int32) :
    ∃ sk' ask', mX12_isPopular (nI v) (nI t) (nI b) sf sb cs cv so sz tr ca ag lk rt sk ask st = some (P.1 (h 8 0) (h 0 t) (gRf h t) (h 4 t), sk', ask') := by
  have c := N.1 t ht
  have d := gRf_le h t
  obtain ⟨-, F, -⟩ := hF (h 8 0) (h 0 t) (gRf h t) (h 4 t) hs2 (by omega) (by omega) (by omega)
  unfold mX12_isPopular
  rw [show (0 : Int32) = nI 0 from rfl, r_told hb 0 (by omega), obind]
  rcases F with ⟨e1, e2⟩ | ⟨e1, e2⟩
  · rw [if_neg (by rw [decide_eq_true_eq]; exact fun q => q e1), r_refs hv M N ht hw, obind]
    by_cases q : 3 < gRf h t
    · rw [if_pos (show 3 < nI (gRf h t) from nI_lt (a := 3) q (by omega)), e2.mp q]; exact ⟨_, _, rfl⟩
    · rw [if_neg (show ¬ 3 < nI (gRf h t) from nI_nlt (a := 3) (by omega) (by decide)), Bool.eq_false_iff.mpr (fun z => q (e2.mpr z))]; exact ⟨_, _, rfl⟩
  · rw [if_pos (by rw [decide_eq_true_eq]; exact e1)]
    obtain ⟨ask', l, a1, a2, a3, a4⟩ := r_layT (so := so) hv M N hs ht hw ask
    rw [l, obind]
    obtain ⟨y, sk', k1, k2⟩ := e2 sk ask' a1 a2 a3 a4
    rw [show nI 0 = (0 : Int32) from rfl, k1, obind, xu_r]
    by_cases q : y = 1
    · rw [if_pos q, k2.mp q]; exact ⟨_, _, rfl⟩
    · rw [if_neg q, Bool.eq_false_iff.mpr (fun z => q (k2.mpr z))]; exact ⟨_, _, rfl⟩
theorem r_cost (hv : v < 22) (hb : b < 2) (hF : rF b sf sb cs cv P) (M : rM v h sz tr ca pl ag mk lk rt st sT) (N : iN h) (hs : so v = nI (h 8 0)) (hs2 : h 8 0 ≤ 1000) {t : Nat} (ht : t < 40) (hw : gWt h t = true) (sk : Nat → Int64) (ask : Nat → Int32) :
    ∃ sk' ask', mX12_costOf (nI v) (nI t) (nI b) sf sb cs cv so sz tr ca ag lk rt sk ask st = some (nI (P.2.1 (h 8 0) (h 0 t) (gRf h t) (h 4 t)), sk', ask') := by
  have c := N.1 t ht
  have d := gRf_le h t
  obtain ⟨-, -, F⟩ := hF (h 8 0) (h 0 t) (gRf h t) (h 4 t) hs2 (by omega) (by omega) (by omega)
  unfold mX12_costOf
  rw [show (2 : Int32) = nI 2 from rfl, r_told hb 2 (by omega), obind]
  rcases F with ⟨e1, e2⟩ | ⟨e1, e2⟩
  · rw [if_neg (by rw [decide_eq_true_eq]; exact fun q => q e1), zb_t v t hv ht, if_pos rfl, zc_t v t hv ht, (M.1 t ht).1, e2]
    exact ⟨_, _, rfl⟩
  · rw [if_pos (by rw [decide_eq_true_eq]; exact e1)]
    obtain ⟨ask', l, a1, a2, a3, a4⟩ := r_layT (so := so) hv M N hs ht hw ask
    rw [l, obind]
    obtain ⟨y, sk', k1, k2⟩ := e2 sk ask' a1 a2 a3 a4
    rw [show nI 2 = (2 : Int32) from rfl, k1, obind, xu_r]
    by_cases q : y < 0
    · rw [if_pos q] at k2
      rw [if_pos q, ← k2]; exact ⟨_, _, rfl⟩
    · rw [if_neg q] at k2
      rw [if_neg q]
      by_cases q2 : 99 < y
      · rw [if_pos q2] at k2
        rw [if_pos q2, ← k2]; exact ⟨_, _, rfl⟩
      · rw [if_neg q2] at k2
        rw [if_neg q2, ← k2]; exact ⟨_, _, rfl⟩
theorem r_lays (hv : v < 22) (hb : b < 2) (M : rM v h sz tr ca pl ag mk lk rt st sT) (N : iN h) {t w U : Nat} (ht : t < 40) (hw : w < 1000) (hU : ut b = nI U) (hU2 : U < 1000) :
    mX12_lays (nI v) (nI t) (nI w) (nI b) ut sz tr ca pl = some (upd tr (40 * v + t) (nI w), upd ca (40 * v + t) (nI (gNc h t w U)), upd pl (40 * v + t) (nI (gNp h t w U))) := by
  have key : ∀ u, u < 40 → ((0 < h 0 u ∧ u ≠ t ∧ tr (40 * v + u) = nI w) ↔ (0 < h 0 u ∧ u ≠ t ∧ h 1 u = w)) := by
    intro u hu
    constructor
    · rintro ⟨a, c, d⟩
      have := N.2.1 u hu a
      rw [(M.2.1 u hu a).1, nI_eq (by omega) (by omega)] at d
      exact ⟨a, c, d⟩
    · rintro ⟨a, c, d⟩
      exact ⟨a, c, by rw [(M.2.1 u hu a).1, d]⟩
  rw [s_lays v hv sz tr ca pl t ht w hw b U hb ut hU hU2 (h 0) (h 2) (fun u hu => (M.1 u hu).1) (fun u hu => by have := N.1 u hu; omega) (fun u hu p _ _ => ⟨(M.2.1 u hu p).2.1, by have := N.2.1 u hu p; omega⟩)]
  have eN : bmx (fun u => decide (0 < h 0 u ∧ u ≠ t ∧ tr (40 * v + u) = nI w)) (h 2) 40 = gNl h t w := bmx_cong (fun u hu => by rw [decide_eq_decide]; exact key u hu) (fun _ _ _ => rfl)
  have eP : ∀ u, u < 40 → decide (0 < h 0 u ∧ u ≠ t ∧ tr (40 * v + u) = nI w ∧ h 2 u + 1 = gNl h t w) = gLd h t w u := by
    intro u hu
    unfold gLd
    rw [decide_eq_decide]
    have := key u hu
    constructor
    · rintro ⟨a, c, d, e⟩
      have := this.mp ⟨a, c, d⟩
      exact ⟨this.1, this.2.1, this.2.2, e⟩
    · rintro ⟨a, c, d, e⟩
      have := this.mpr ⟨a, c, d⟩
      exact ⟨this.1, this.2.1, this.2.2, e⟩
  simp only [eN]
  rw [fb_ct_cong (q := gLd h t w) eP, fb_sm_cong (g := fun u => if gLd h t w u = true then h 0 u else 0) (fun u hu => by rw [eP u hu])]
  rfl
theorem rM_lay (M : rM v h sz tr ca pl ag mk lk rt st sT) {t : Nat} (w U : Nat) :
    rM v (gLy h t w U) sz (upd tr (40 * v + t) (nI w)) (upd ca (40 * v + t) (nI (gNc h t w U))) (upd pl (40 * v + t) (nI (gNp h t w U))) ag (upd mk (40 * v + t) 0) lk rt st sT := by
  refine ⟨fun u hu => ?_, fun u hu p => ?_, fun u hu e => ?_, fun j hj => ?_, fun k hk => ?_⟩
  · rw [gLy_o h t w U (by decide), gLy_o h t w U (by decide)]; exact M.1 u hu
  · rw [gLy_o h t w U (by decide)] at p
    rw [gLy_o h t w U (a := 4) (by decide)]
    by_cases e : u = t
    · subst e
      rw [gLy_1, gLy_2, gLy_3, gLy_5, pk_us, pk_us, pk_us, pk_us]
      exact ⟨rfl, rfl, rfl, (M.2.1 u hu p).2.2.2.1, rfl⟩
    · have e2 : 40 * v + u ≠ 40 * v + t := by omega
      rw [gLy_n h t w U e, gLy_n h t w U e, gLy_n h t w U e, gLy_n h t w U e, pk_un e2, pk_un e2, pk_un e2, pk_un e2]
      exact M.2.1 u hu p
  · rw [gLy_o h t w U (by decide)] at e ⊢; exact M.2.2.1 u hu e
  · rw [gLy_o h t w U (by decide)]; exact M.2.2.2.1 j hj
  · rw [gLy_o h t w U (by decide)]; exact M.2.2.2.2 k hk
theorem rM_stay (M : rM v h sz tr ca pl ag mk lk rt st sT) {t : Nat} (w : Nat) :
    rM v (gSy h t w) sz tr ca pl ag (upd mk (40 * v + t) 0) lk rt (upd st t 1) (upd sT t (nI w)) := by
  refine ⟨fun u hu => ?_, fun u hu p => ?_, fun u hu e => ?_, fun j hj => ?_, fun k hk => ?_⟩
  · rw [gSy_o h t w (by decide)]
    refine ⟨(M.1 u hu).1, ?_⟩
    by_cases e : u = t
    · subst e; rw [pk_us, gSy_9]; rfl
    · rw [pk_un e, gSy_n h t w e]; exact (M.1 u hu).2
  · rw [gSy_o h t w (by decide)] at p
    rw [gSy_o h t w (a := 1) (by decide), gSy_o h t w (a := 2) (by decide), gSy_o h t w (a := 3) (by decide), gSy_o h t w (a := 4) (by decide)]
    obtain ⟨a, c, d, e1, f⟩ := M.2.1 u hu p
    refine ⟨a, c, d, e1, ?_⟩
    by_cases e : u = t
    · subst e; rw [pk_us, gSy_5]; rfl
    · rw [pk_un (show 40 * v + u ≠ 40 * v + t by omega), gSy_n h t w e]; exact f
  · by_cases z : u = t
    · subst z; rw [pk_us, gSy_10]
    · rw [gSy_n h t w z] at e
      rw [pk_un z, gSy_n h t w z]; exact M.2.2.1 u hu e
  · rw [gSy_o h t w (by decide)]; exact M.2.2.2.1 j hj
  · rw [gSy_o h t w (by decide)]; exact M.2.2.2.2 k hk
theorem i_and (x y : Bool) : (if x = true then (1 : Int32) else 0) &&& (if y = true then 1 else 0) = if (x && y) = true then 1 else 0 := by
  cases x <;> cases y <;> rfl
theorem r_e157 (hv : v < 22) {h' : GH} {t : Nat} (M : rM v h' sz tr ca pl ag (upd mk (40 * v + t) 0) lk rt st sT) (N : iN h') (ht : t < 40) (rn wt x2 x3 x4 co : Int32) (sk : Nat → Int64) (ask : Nat → Int32) (K) :
    mX12_empties_157 (nI v) sz lk rt mk rn wt (nI t) K x2 x3 x4 co tr ca pl sk ask st sT = K x2 x3 x4 (bno (gPk h').2) (nI (gPk h').1) (wt + 1) co tr ca pl (upd mk (40 * v + t) 0) sk ask st sT := by
  unfold mX12_empties_157
  rw [zb_t v t hv ht, if_pos rfl, zc_t v t hv ht, r_next hv M N, obind, xu_r]
theorem r_e66 (hv : v < 22) (hb : b < 2) {X : GM} (hF : rF b sf sb cs cv P) (hU : ut b = nI P.2.2) (hU2 : P.2.2 < 1000) (M : rM v X.1 sz tr ca pl ag mk lk rt st sT) (N : iN X.1) (hs : so v = nI (X.1 8 0)) (hs2 : X.1 8 0 ≤ 1000) {r t : Nat} (ht : t < 40) (hw : gWt X.1 t = true) (hr : r < 1000) (hto : gTo X r t < 900) (hs3 : X.2.2.1 < 900) (N' : iN (gMv P X r t).1) (x2 : Int32) (sk : Nat → Int64) (ask : Nat → Int32) (K) :
    ∃ tr' ca' pl' sk' ask' st' sT', (rM v (gMv P X r t).1 sz tr' ca' pl' ag (upd mk (40 * v + t) 0) lk rt st' sT' ∧ lF v tr tr' ∧ lF v ca ca' ∧ lF v pl pl') ∧
      mX12_empties_66 (nI v) (nI b) ut sf sb cs cv so sz ag lk rt ask ca st mk pl sk sT tr (nI X.2.2.2.2.2) (nI r) (nI X.2.2.2.2.1) (bno X.2.2.1) (if X.2.2.2.1 = true then 1 else 0) (nI t) K x2 (nI (gTo X r t)) =
        K x2 (bno (gMv P X r t).2.2.1) (if (gMv P X r t).2.2.2.1 = true then 1 else 0) (bno (gPk (gMv P X r t).1).2) (nI (gPk (gMv P X r t).1).1) (nI (gMv P X r t).2.2.2.2.1) (nI (gMv P X r t).2.2.2.2.2) tr' ca' pl' (upd mk (40 * v + t) 0) sk' ask' st' sT' := by
  have e4 : ∀ K, mX12_empties_66 (nI v) (nI b) ut sf sb cs cv so sz ag lk rt ask ca st mk pl sk sT tr (nI X.2.2.2.2.2) (nI r) (nI X.2.2.2.2.1) (bno X.2.2.1) (if X.2.2.2.1 = true then 1 else 0) (nI t) K x2 (nI (gTo X r t)) =
      mX12_empties_81 (nI v) (nI b) ut sf sb cs cv so sz ag lk rt ask ca st mk pl sk sT tr (nI X.2.2.2.2.2) (nI r) (nI X.2.2.2.2.1) (bno X.2.2.1) (if X.2.2.2.1 = true then 1 else 0) (nI t) K x2 (nI (gTo X r t)) (if decide (r = 4) = true then 1 else 0) := by
    intro K
    unfold mX12_empties_66
    by_cases e : r = 4
    · rw [if_pos (show nI r = 4 from e ▸ rfl), if_pos (decide_eq_true e)]
    · rw [if_neg (show ¬ nI r = 4 from fun q => e ((nI_eq (b := 4) (by omega) (by decide)).mp q)), if_neg (show ¬ decide (r = 4) = true by rw [decide_eq_true_eq]; exact e)]
  rw [e4]
  unfold mX12_empties_81
  obtain ⟨sk1, ask1, p1⟩ := r_pop hv hb hF M N hs hs2 ht hw sk ask
  rw [p1, obind, xu_r, xu_r, i_and]
  by_cases e : P.1 (X.1 8 0) (X.1 0 t) (gRf X.1 t) (X.1 4 t) = true
  · rw [gMv_stay e] at N' ⊢
    rw [if_pos e, zb t 40 ht (by decide), if_pos rfl, zc t (by omega)]
    have M' := rM_stay M (t := t) (gTo X r t)
    by_cases z : X.2.2.1 = 0
    · rw [if_pos ((bno_m1 (by omega)).mpr z), r_e157 hv M' N' ht, nI_1]
      refine ⟨_, _, _, sk1, ask1, _, _, ⟨M', lF_rf v _, lF_rf v _, lF_rf v _⟩, ?_⟩
      show _ = K x2 (bno (if X.2.2.1 = 0 then gTo X r t + 1 else X.2.2.1)) _ _ _ _ _ _ _ _ _ _ _ _ _
      rw [if_pos z, bnoS]
    · rw [if_neg (fun q => z ((bno_m1 (by omega)).mp q)), r_e157 hv M' N' ht, nI_1]
      refine ⟨_, _, _, sk1, ask1, _, _, ⟨M', lF_rf v _, lF_rf v _, lF_rf v _⟩, ?_⟩
      show _ = K x2 (bno (if X.2.2.1 = 0 then gTo X r t + 1 else X.2.2.1)) _ _ _ _ _ _ _ _ _ _ _ _ _
      rw [if_neg z]
  · rw [gMv_lay e] at N' ⊢
    rw [if_neg e]
    obtain ⟨sk2, ask2, p2⟩ := r_cost hv hb hF M N hs hs2 ht hw sk1 ask1
    rw [p2, obind, xu_r, xu_r, r_lays hv hb M N ht (by omega) hU hU2, obind, xu_r, xu_r]
    have M' := rM_lay M (t := t) (gTo X r t) P.2.2
    rw [r_e157 hv M' N' ht, nI_1, nI_add]
    exact ⟨_, _, _, _, _, _, _, ⟨M', lF_up tr ht _, lF_up ca ht _, lF_up pl ht _⟩, rfl⟩
end SQ
