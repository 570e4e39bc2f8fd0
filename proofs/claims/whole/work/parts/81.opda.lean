/-- a frame that may stand -/
def oF (F : Fr) : Prop := F.1 ≤ 6 ∧ F.2.1 ≤ 2 ∧ F.2.2.2.1 < 100 ∧ oS F.2.2.2.2 ∧ (mTs F.1 = true → F.2.2.1 = true → ∀ y, y ∈ F.2.2.2.2 → mRk y ≤ 3) ∧ (mTs F.1 = true → F.2.1 = 0 → ∀ y, y ∈ F.2.2.2.2 → mRk y ≠ 4)
/-- those behind the innermost -/
def oFl : List Fr → Prop
  | [] => True
  | F :: R => oF F ∧ F.2.2.1 = false ∧ (R = [] → F.1 < 2) ∧ oFl R
def oI (c0 B : Nat) (X : MS) : Prop := match X.2.2.2.2 with
  | [] => False
  | F :: R => oF F ∧ (X.1 = true → F.2.2.1 = false) ∧ (R = [] → F.1 < 2) ∧ oFl R ∧ X.2.2.1 + 1 = R.length + 1 + (mCt F.2.2.2.2 + oN R) ∧ X.2.2.1 ≤ 7 ∧ X.2.1 ≤ B ∧ c0 + X.2.2.2.1.length + (oC R + F.2.2.2.2.length) ≤ X.2.1
/-- frames lie in the rows -/
def oA (fr ph be pa ba op : Nat → Int32) : List Fr → Prop
  | [] => True
  | F :: R => fr R.length = nI F.1 ∧ ph R.length = nI F.2.1 ∧ be R.length = (if F.2.2.1 = true then 1 else 0) ∧ (F.1 = 3 ∨ F.1 = 4 ∨ F.1 = 6 → pa R.length = nI F.2.2.2.1) ∧ ba R.length = nI (oC R) ∧ oW op (oC R) F.2.2.2.2 ∧ oA fr ph be pa ba op R
theorem oA_cong {fr ph be pa ba op fr' ph' be' pa' ba' op' : Nat → Int32} : ∀ {R : List Fr}, (∀ j, j < R.length → fr j = fr' j ∧ ph j = ph' j ∧ be j = be' j ∧ pa j = pa' j ∧ ba j = ba' j) → (∀ j, j < oC R → op j = op' j) → oA fr ph be pa ba op R → oA fr' ph' be' pa' ba' op' R
  | [], _, _, _ => trivial
  | F :: R, h, g, a => by
    have hl : (F :: R).length = R.length + 1 := rfl
    have hc : oC (F :: R) = F.2.2.2.2.length + oC R := rfl
    obtain ⟨a1, a2, a3, a4, a5, a6, a7⟩ := a
    obtain ⟨b1, b2, b3, b4, b5⟩ := h R.length (by omega)
    refine ⟨b1 ▸ a1, b2 ▸ a2, b3 ▸ a3, fun q => b4 ▸ a4 q, b5 ▸ a5, oW_cong (fun j hj => g j (by omega)) a6, oA_cong (fun j hj => h j (by omega)) (fun j hj => g j (by omega)) a7⟩
theorem oFl_len : ∀ {R : List Fr}, oFl R → oC R ≤ 5 * R.length + oN R
  | [], _ => Nat.zero_le _
  | F :: R, h => by
    have a := oS_len _ h.1.2.2.2.1
    have b := oFl_len h.2.2.2
    rw [oC, oN, List.length_cons]
    omega
theorem oI_num {c0 B k o : Nat} {b : Bool} {M : List (Nat × Nat)} {F : Fr} {R : List Fr} (h : oI c0 B (b, k, o, M, F :: R)) : R.length + 1 ≤ 8 ∧ oC R + F.2.2.2.2.length ≤ 47 ∧ c0 + M.length + (oC R + F.2.2.2.2.length) ≤ k ∧ k ≤ B ∧ mCt F.2.2.2.2 ≤ o ∧ o ≤ 7 ∧ R.length ≤ o := by
  obtain ⟨h1, h2, h3, h4, h5, h6, h7, h8⟩ := h
  have a := oS_len _ h1.2.2.2.1
  have b := oFl_len h4
  dsimp only at h5 h6 h7 h8
  refine ⟨by omega, by omega, h8, h7, by omega, h6, by omega⟩
/-- no fault has a place -/
def oP : Int32 := -1
section OE
variable (tx : Nat → Nat) (n i c0 B : Nat) (CS0 CV0 : Nat → Int32)
/-- what the rows hold after a piece of the machine -/
def oE (r : MS ⊕ NR) (b : Bool) (sg sa se v : Int32) (w : Int64) (F P lx c d o q : Int32) (CS CV fr ph be pa ba op : Nat → Int32) : Prop := match r with
  | .inl Y => (F = 0 ∧ P = oP) ∧ b = Y.1 ∧ oI c0 B Y ∧ oG tx n Y.2.1 sg sa se v w lx ∧ c = nI (c0 + Y.2.2.2.1.length) ∧ d = nI Y.2.2.2.2.length ∧ o = nI Y.2.2.1 ∧ q = nI (oC Y.2.2.2.2) ∧ CS = rput CS0 (1600 * i + c0) (oSo Y.2.2.2.1) ∧ CV = rput CV0 (1600 * i + c0) (oVa Y.2.2.2.1) ∧ oA fr ph be pa ba op Y.2.2.2.2
  | .inr r => (r.1 = 0 ∧ (F = 0 ∧ P = oP) ∧ oG tx n r.2.2.1 sg sa se v w lx ∧ c = nI (c0 + r.2.2.2.length) ∧ CS = rput CS0 (1600 * i + c0) (oSo r.2.2.2) ∧ CV = rput CV0 (1600 * i + c0) (oVa r.2.2.2) ∧ c0 + r.2.2.2.length ≤ r.2.2.1 ∧ r.2.2.1 ≤ B) ∨ (r.1 ≠ 0 ∧ r.1 < 10 ∧ F = nI r.1 ∧ P = nI r.2.1 ∧ ∃ M : List (Nat × Nat), CS = rput CS0 (1600 * i + c0) (oSo M) ∧ CV = rput CV0 (1600 * i + c0) (oVa M) ∧ c0 + M.length ≤ 1600)
/-- what an operand comes to -/
def oEo (r : MS ⊕ NR) (res : Option (Bool × Int32 × Int32 × Int32 × Int32 × Int64 × Int32 × Int32 × Int32 × Int32 × Int32 × Int32 × Int32 × (Nat → Int32) × (Nat → Int32) × (Nat → Int32) × (Nat → Int32) × (Nat → Int32) × (Nat → Int32) × (Nat → Int32) × (Nat → Int32))) : Prop :=
  ∃ (b : Bool) (sg sa se v : Int32) (w : Int64) (F P lx c d o q : Int32) (CS CV fr ph be pa ba op : Nat → Int32), res = some (b, sg, sa, se, v, w, F, P, lx, c, d, o, q, CS, CV, fr, ph, be, pa, ba, op) ∧ oE tx n i c0 B CS0 CV0 r b sg sa se v w F P lx c d o q CS CV fr ph be pa ba op
end OE
section OP
variable {tx : Nat → Nat} {n : Nat} {tp : Nat → Int32} {i lw c0 B k o : Nat} {CS0 CV0 : Nat → Int32} {sg sa se v : Int32} {w : Int64} {lx P : Int32} {M : List (Nat × Nat)} {kd ph : Nat} {bg : Bool} {pr : Nat} {pd : List Nat} {R : List Fr} {fr pH be pa ba op : Nat → Int32}
theorem oEo_bad {f p : Nat} {s : Bool × Int32 × Int32 × Int32 × Int32 × Int64 × Int32 × Int32 × Int32 × Int32 × Int32 × Int32 × Int32 × (Nat → Int32) × (Nat → Int32) × (Nat → Int32) × (Nat → Int32) × (Nat → Int32) × (Nat → Int32) × (Nat → Int32) × (Nat → Int32)} (hf : f ≠ 0) (hf2 : f < 10) (h7 : s.2.2.2.2.2.2.1 = nI f) (h8 : s.2.2.2.2.2.2.2.1 = nI p) (hCS : s.2.2.2.2.2.2.2.2.2.2.2.2.2.1 = rput CS0 (1600 * i + c0) (oSo M)) (hCV : s.2.2.2.2.2.2.2.2.2.2.2.2.2.2.1 = rput CV0 (1600 * i + c0) (oVa M)) (hM : c0 + M.length ≤ 1600) : oEo tx n i c0 B CS0 CV0 (.inr (nBad f p)) (some s) := by
  obtain ⟨b, sg, sa, se, v, w, F, P, lx, c, d, o, q, CS, CV, fr, ph, be, pa, ba, op⟩ := s
  exact ⟨b, sg, sa, se, v, w, F, P, lx, c, d, o, q, CS, CV, fr, ph, be, pa, ba, op, rfl, Or.inr ⟨hf, hf2, h7, h8, M, hCS, hCV, hM⟩⟩
/-- a frame opens -/
theorem s_opens (hn : n ≤ 1600) (ht : ∀ i, i < n → tp i = nI (tx i)) (hb : ∀ i, i < n → tx i < 256) (hG : oG tx n k sg sa se v w lx) (kI : Int32) (d q : Nat) (hd : d < 20) (ho : o ≤ 7) :
    (o = 7 → mX12_opens kI (nI n) sg sa se v w 0 P lx (nI d) (nI o) (nI q) tp fr pH be ba = some (sg, sa, se, v, w, nI 5, sa, lx, nI d, nI o, fr, pH, be, ba)) ∧
    (o < 7 → ∃ (a b c e : Int32) (f : Int64) (g : Int32), oG tx n (k + 1) a b c e f g ∧ mX12_opens kI (nI n) sg sa se v w 0 P lx (nI d) (nI o) (nI q) tp fr pH be ba = some (a, b, c, e, f, 0, P, g, nI (d + 1), nI (o + 1), upd fr d kI, upd pH d 0, upd be d 1, upd ba d (nI q))) := by
  refine ⟨fun h => ?_, fun h => ?_⟩
  · unfold mX12_opens
    rw [if_pos (by rw [h]; rfl), xlet_eq]
    unfold mX12_blame
    rw [if_neg (by decide), xu_q]
    unfold mX12_opens_18
    rw [if_pos (by decide)]
    rfl
  · obtain ⟨a, b, c, e, f, g, h1, h2⟩ := oG_next tx n tp hn ht hb hG
    refine ⟨a, b, c, e, f, g, h2, ?_⟩
    unfold mX12_opens
    rw [if_neg (fun z => by have := (nI_eq (b := 7) (by omega) (by decide)).mp z; omega)]
    unfold mX12_opens_18
    rw [if_neg (by decide), h1, obind]
    simp only [xu_q]
    unfold mX12_pushes
    rw [if_pos (zb _ _ hd (by decide)), obind]
    simp only [xu_q]
    rw [zc _ (by omega), nI_1, nI_1]
/-- the rows when a frame opens -/
theorem oA_open (hA : oA fr pH be pa ba op ((kd, ph, bg, pr, pd) :: R)) (kd' pr' : Nat) (pa' : Nat → Int32) (hp : ∀ j, j < R.length + 1 → pa' j = pa j) (hp2 : kd' = 3 ∨ kd' = 4 ∨ kd' = 6 → pa' (R.length + 1) = nI pr') :
    oA (upd fr (R.length + 1) (nI kd')) (upd pH (R.length + 1) 0) (upd (upd be R.length 0) (R.length + 1) 1) pa' (upd ba (R.length + 1) (nI (oC R + pd.length))) op ((kd', 0, true, pr', []) :: (kd, ph, false, pr, pd) :: R) := by
  obtain ⟨a1, a2, a3, a4, a5, a6, a7⟩ := hA
  have e : ((kd, ph, false, pr, pd) :: R : List Fr).length = R.length + 1 := rfl
  refine ⟨by rw [e]; exact pk_us, by rw [e]; exact pk_us, by rw [e]; exact pk_us, fun q => by rw [e]; exact hp2 q, ?_, trivial, ?_, ?_, ?_, fun q => ?_, ?_, a6, ?_⟩
  · rw [e, show oC ((kd, ph, false, pr, pd) :: R) = pd.length + oC R from rfl, Nat.add_comm pd.length]; exact pk_us
  · rw [pk_un (by omega)]; exact a1
  · rw [pk_un (by omega)]; exact a2
  · rw [pk_un (by omega), pk_us]; rfl
  · rw [hp _ (by omega)]; exact a4 q
  · rw [pk_un (by omega)]; exact a5
  · refine oA_cong (fun j hj => ?_) (fun j _ => rfl) a7
    rw [pk_un (by omega), pk_un (by omega), pk_un (by omega), pk_un (by omega), pk_un (by omega), hp _ (by omega)]
    exact ⟨rfl, rfl, rfl, rfl, rfl⟩
theorem oF_0 (kd pr : Nat) (h : kd ≤ 6) (h2 : pr < 100) : oF (kd, 0, true, pr, []) := ⟨h, by show 0 ≤ 2; omega, h2, trivial, fun _ _ y hy => by (cases hy), fun _ _ y hy => by (cases hy)⟩
theorem oF_cl {bg' : Bool} (h : oF (kd, ph, bg', pr, pd)) : oF (kd, ph, false, pr, pd) := ⟨h.1, h.2.1, h.2.2.1, h.2.2.2.1, fun _ q => absurd q (by show ¬ false = true; decide), h.2.2.2.2.2⟩
/-- the invariant when a frame opens -/
theorem oI_open (h : oI c0 B (false, k, o, M, (kd, ph, bg, pr, pd) :: R)) (kd' pr' k' : Nat) (hk : k < k') (hk' : k' ≤ B) (ho : o < 7) (h6 : kd' ≤ 6) (hp : pr' < 100) : oI c0 B (false, k', o + 1, M, (kd', 0, true, pr', []) :: (kd, ph, false, pr, pd) :: R) := by
  obtain ⟨h1, h2, h3, h4, h5, h6', h7, h8⟩ := h
  dsimp only at h5 h6' h7 h8
  refine ⟨oF_0 kd' pr' h6 hp, fun q => absurd q (by show ¬ false = true; decide), fun q => absurd q (by simp), ⟨oF_cl h1, rfl, h3, h4⟩, ?_, ?_, hk', ?_⟩
  · show o + 1 + 1 = R.length + 1 + 1 + (mCt [] + (mCt pd + oN R))
    rw [mCt]; omega
  · show o + 1 ≤ 7; omega
  · show c0 + M.length + (pd.length + oC R + 0) ≤ k'
    omega
/-- the invariant when an operand is laid -/
theorem oI_val (h : oI c0 B (false, k, o, M, (kd, ph, bg, pr, pd) :: R)) (x : Nat × Nat) (hk : k < B) (ph' : Nat) (hph : ph' = ph ∨ ph' = 2) : oI c0 B (true, k + 1, o, M ++ [x], (kd, ph', false, pr, pd) :: R) := by
  obtain ⟨h1, h2, h3, h4, h5, h6, h7, h8⟩ := h
  dsimp only at h5 h6 h7 h8
  refine ⟨⟨h1.1, ?_, h1.2.2.1, h1.2.2.2.1, fun _ q => absurd q (by show ¬ false = true; decide), ?_⟩, fun _ => rfl, h3, h4, h5, h6, ?_, ?_⟩
  · show ph' ≤ 2
    have := h1.2.1
    rcases hph with q | q
    · rw [q]; exact this
    · omega
  · intro a b
    rcases hph with q | q
    · exact h1.2.2.2.2.2 a (by show ph = 0; rw [← q]; exact b)
    · exact absurd (show ph' = 0 from b) (by omega)
  · show k + 1 ≤ B; omega
  · show c0 + (M ++ [x]).length + (oC R + pd.length) ≤ k + 1
    rw [List.length_append, List.length_cons, List.length_nil]
    omega
theorem oA_top (hA : oA fr pH be pa ba op ((kd, ph, bg, pr, pd) :: R)) (ph' : Nat) : oA fr (upd pH R.length (nI ph')) (upd be R.length 0) pa ba op ((kd, ph', false, pr, pd) :: R) := by
  obtain ⟨a1, a2, a3, a4, a5, a6, a7⟩ := hA
  refine ⟨a1, pk_us, pk_us, a4, a5, a6, oA_cong (fun j hj => ?_) (fun j _ => rfl) a7⟩
  rw [pk_un (by omega), pk_un (by omega)]
  exact ⟨rfl, rfl, rfl, rfl, rfl⟩
theorem oA_beg (hA : oA fr pH be pa ba op ((kd, ph, bg, pr, pd) :: R)) : oA fr pH (upd be R.length 0) pa ba op ((kd, ph, false, pr, pd) :: R) := by
  obtain ⟨a1, a2, a3, a4, a5, a6, a7⟩ := hA
  refine ⟨a1, a2, pk_us, a4, a5, a6, oA_cong (fun j hj => ?_) (fun j _ => rfl) a7⟩
  rw [pk_un (by omega)]
  exact ⟨rfl, rfl, rfl, rfl, rfl⟩
theorem rput_S (M : List (Nat × Nat)) (s z : Nat) (A : Nat → Int32) (c : Nat) : upd (rput A (1600 * i + c) (oSo M)) (1600 * i + (c + M.length)) (nI s) = rput A (1600 * i + c) (oSo (M ++ [(s, z)])) := by
  unfold oSo
  rw [List.map_append, List.map_cons, List.map_nil, rput_1, List.length_map, Nat.add_assoc]
theorem rput_V (M : List (Nat × Nat)) (s z : Nat) (A : Nat → Int32) (c : Nat) : upd (rput A (1600 * i + c) (oVa M)) (1600 * i + (c + M.length)) (nI z) = rput A (1600 * i + c) (oVa (M ++ [(s, z)])) := by
  unfold oVa
  rw [List.map_append, List.map_cons, List.map_nil, rput_1, List.length_map, Nat.add_assoc]
end OP
