/-! branches, switches, ends, entries -/
abbrev xRes : Type := Option (Option Value × xC)
def xPq (own : String) (cc : ByteArray) (tb : xTb) (P : xPg) : Prop := xTab own tb ∧ xPok cc tb P
def xY (l : Launch) (cc : ByteArray) (nL : Nat) (own : String) (rt : Option FieldType) (d : Nat) (X : xCtx) : Prop := xX X ∧ X.2.2.2.2 = (cc, nL, own, rt, d) ∧ X.1.2.1 = l
theorem xY.P {l : Launch} {cc : ByteArray} {nL : Nat} {own : String} {rt : Option FieldType} {d : Nat} {X : xCtx} {tb : xTb} {P : xPg} (K : xY l cc nL own rt d X) (hP : xPq own cc tb P) : xP X tb P := by
  obtain ⟨-, h, -⟩ := K
  unfold xP
  rw [h]
  exact hP
def xb (b : Bool) : Int32 := match b with
  | true => 1
  | false => 0
theorem xb_0 (b : Bool) : xb b = 0 ↔ b = false := by cases b <;> decide
theorem xb_01 (b : Bool) : xb b = 0 ∨ xb b = 1 := by cases b <;> decide
theorem xb_nar (b : Bool) : vp_nar .boolean (xb b) = xb b := by cases b <;> rfl
section XB
variable {l : Launch} {cc : ByteArray} {nL : Nat} {own : String} {rt : Option FieldType} {d : Nat} {X : xCtx} {tb : xTb} {P : xPg} {pc t : Nat} {off : Int} {L : xLo} {S : List Value} {C : xC} {r : xRes} {ρ : Type} {ra rb : ρ}
theorem xR_st (K : xY l cc nL own rt d X) (hP : xPq own cc tb P) (n : Nat) {pc' : Nat} {L' : xLo} {S' : List Value} {C' : xC} {Q : Prop} (h : xgo P n pc (L, S, C) = some (pc', (L', S', C'), Q)) (hq : Q) (k : xR X r pc' L' S' C') : xR X r pc L S C := xR_go K.1 (K.P hP) n h hq k
theorem xR_if0 {cd : Jvm.ClassFile.Cond} {x : Int32} (K : xY l cc nL own rt d X) (hP : xPq own cc tb P) (ha : xat P pc = some (.ifCond cd off, .retAddr t)) {A B : Prop} (hc : match cd with
    | .eq => (A = (x = 0) ∧ B = ¬ (x = 0))
    | .ne => (A = ¬ (x = 0) ∧ B = (x = 0))
    | .lt => (A = (x < 0) ∧ B = ¬ (x < 0))
    | .ge => (A = ¬ (x < 0) ∧ B = (x < 0))
    | .gt => (A = (0 < x) ∧ B = ¬ (0 < x))
    | .le => (A = ¬ (0 < x) ∧ B = (0 < x))) (kt : A → xR X r t L S C) (kf : B → xR X r (pc + 3) L S C) : xR X r pc L (.int x :: S) C := by
  have hP := K.P hP
  obtain ⟨K, -, -⟩ := K
  obtain ⟨⟨p, l, e, s⟩, ⟨m, args, below⟩, ⟨meth, c⟩, ⟨dd, tc, ad, A0⟩, cc, nL, own, rt, d⟩ := X
  obtain ⟨hx, hb, hml, hown, hts, hr, hlk, hK⟩ := K
  obtain ⟨hT, hPk⟩ := hP
  obtain ⟨hd, hv⟩ := hPk _ (xat_ok ha)
  have ho := xkv_off hv
  intro v9 C9 hr9 H locs ls hl hP0 hD hS
  have kt := fun h => kt h v9 C9 hr9 H locs ls hl hP0 hD hS
  have kf := fun h => kf h v9 C9 hr9 H locs ls hl hP0 hD hS
  cases cd
  · obtain ⟨rfl, rfl⟩ := hc; exact lv_if_eq hx hb hd ho kt kf
  · obtain ⟨rfl, rfl⟩ := hc; exact lv_if_ne hx hb hd ho kt (fun h => kf (by first | exact h | exact Decidable.not_not.mp h))
  · obtain ⟨rfl, rfl⟩ := hc; exact lv_if_lt hx hb hd ho kt kf
  · obtain ⟨rfl, rfl⟩ := hc; exact lv_if_ge hx hb hd ho (fun h => kt (Int32.not_lt.mpr h)) (fun h => kf (Int32.not_le.mp h))
  · obtain ⟨rfl, rfl⟩ := hc; exact lv_if_gt hx hb hd ho kt kf
  · obtain ⟨rfl, rfl⟩ := hc; exact lv_if_le hx hb hd ho (fun h => kt (Int32.not_lt.mpr h)) (fun h => kf (Int32.not_le.mp h))
theorem xR_if2 {cd : Jvm.ClassFile.Cond} {x y : Int32} (K : xY l cc nL own rt d X) (hP : xPq own cc tb P) (ha : xat P pc = some (.if_icmp cd off, .retAddr t)) {A B : Prop} (hc : match cd with
    | .eq => (A = (x = y) ∧ B = ¬ (x = y))
    | .ne => (A = ¬ (x = y) ∧ B = (x = y))
    | .lt => (A = (x < y) ∧ B = ¬ (x < y))
    | .ge => (A = ¬ (x < y) ∧ B = (x < y))
    | .gt => (A = (y < x) ∧ B = ¬ (y < x))
    | .le => (A = ¬ (y < x) ∧ B = (y < x))) (kt : A → xR X r t L S C) (kf : B → xR X r (pc + 3) L S C) : xR X r pc L (.int y :: .int x :: S) C := by
  have hP := K.P hP
  obtain ⟨K, -, -⟩ := K
  obtain ⟨⟨p, l, e, s⟩, ⟨m, args, below⟩, ⟨meth, c⟩, ⟨dd, tc, ad, A0⟩, cc, nL, own, rt, d⟩ := X
  obtain ⟨hx, hb, hml, hown, hts, hr, hlk, hK⟩ := K
  obtain ⟨hT, hPk⟩ := hP
  obtain ⟨hd, hv⟩ := hPk _ (xat_ok ha)
  have ho := xkv_off hv
  intro v9 C9 hr9 H locs ls hl hP0 hD hS
  have kt := fun h => kt h v9 C9 hr9 H locs ls hl hP0 hD hS
  have kf := fun h => kf h v9 C9 hr9 H locs ls hl hP0 hD hS
  cases cd
  · obtain ⟨rfl, rfl⟩ := hc; exact lv_icmp_eq hx hb hd ho kt kf
  · obtain ⟨rfl, rfl⟩ := hc; exact lv_icmp_ne hx hb hd ho kt (fun h => kf (by first | exact h | exact Decidable.not_not.mp h))
  · obtain ⟨rfl, rfl⟩ := hc; exact lv_icmp_lt hx hb hd ho kt kf
  · obtain ⟨rfl, rfl⟩ := hc; exact lv_icmp_ge hx hb hd ho (fun h => kt (Int32.not_lt.mpr h)) (fun h => kf (Int32.not_le.mp h))
  · obtain ⟨rfl, rfl⟩ := hc; exact lv_icmp_gt hx hb hd ho kt kf
  · obtain ⟨rfl, rfl⟩ := hc; exact lv_icmp_le hx hb hd ho (fun h => kt (Int32.not_lt.mpr h)) (fun h => kf (Int32.not_le.mp h))
end XB
/-- the condition of a branch as the function writes it: c, and whether the jump is taken where it holds -/
theorem xR_cond {X : xCtx} {ρ : Type} {enc : ρ → xRes} {ra rb : ρ} {c : Prop} [Decidable c] {pc : Nat} {L : xLo} {S : List Value} {C : xC} (h1 : c → xR X (enc ra) pc L S C) (h2 : ¬ c → xR X (enc rb) pc L S C) : xR X (enc (if c then ra else rb)) pc L S C := by
  by_cases h : c
  · rw [if_pos h]; exact h1 h
  · rw [if_neg h]; exact h2 h

def xC0 (cd : Jvm.ClassFile.Cond) (x : Int32) : Prop := match cd with
  | .eq => x = 0
  | .ne => x = 0
  | .lt => x < 0
  | .ge => x < 0
  | .gt => 0 < x
  | .le => 0 < x
def xC2 (cd : Jvm.ClassFile.Cond) (x y : Int32) : Prop := match cd with
  | .eq => x = y
  | .ne => x = y
  | .lt => x < y
  | .ge => x < y
  | .gt => y < x
  | .le => y < x
def xCl (cd : Jvm.ClassFile.Cond) (x y : Int64) : Prop := match cd with
  | .eq => x = y
  | .ne => x = y
  | .lt => x < y
  | .ge => x < y
  | .gt => y < x
  | .le => y < x
def xCj (cd : Jvm.ClassFile.Cond) : Bool := match cd with
  | .eq => true
  | .ne => false
  | .lt => true
  | .ge => false
  | .gt => true
  | .le => false
section XBC
variable {l : Launch} {cc : ByteArray} {nL : Nat} {own : String} {rt : Option FieldType} {d : Nat} {X : xCtx} {tb : xTb} {P : xPg} {pc t q1 q2 : Nat} {off : Int} {L : xLo} {S : List Value} {C : xC} {ρ : Type} {ra rb : ρ} {enc : ρ → xRes} {cd : Jvm.ClassFile.Cond} {c : Prop}
theorem xR_i0 [Decidable c] {x : Int32} (K : xY l cc nL own rt d X) (hP : xPq own cc tb P) (ha : xat P pc = some (.ifCond cd off, .retAddr t)) (hc : xC0 cd x = c) (h1 : cond (xCj cd) t (pc + 3) = q1) (h2 : cond (xCj cd) (pc + 3) t = q2) (kc : c → xR X (enc ra) q1 L S C) (kn : ¬ c → xR X (enc rb) q2 L S C) : xR X (enc (if c then ra else rb)) pc L (.int x :: S) C := by
  subst h1; subst h2
  cases cd <;> (have hc := hc.symm; subst hc; refine xR_cond (fun h => ?_) (fun h => ?_))
  all_goals first
    | exact xR_if0 K hP ha ⟨rfl, rfl⟩ (fun _ => kc h) (fun h9 => absurd h h9)
    | exact xR_if0 K hP ha ⟨rfl, rfl⟩ (fun h9 => absurd h h9) (fun _ => kc h)
    | exact xR_if0 K hP ha ⟨rfl, rfl⟩ (fun h9 => absurd h9 h) (fun _ => kn h)
    | exact xR_if0 K hP ha ⟨rfl, rfl⟩ (fun _ => kn h) (fun h9 => absurd h9 h)
theorem xR_i2 [Decidable c] {x y : Int32} (K : xY l cc nL own rt d X) (hP : xPq own cc tb P) (ha : xat P pc = some (.if_icmp cd off, .retAddr t)) (hc : xC2 cd x y = c) (h1 : cond (xCj cd) t (pc + 3) = q1) (h2 : cond (xCj cd) (pc + 3) t = q2) (kc : c → xR X (enc ra) q1 L S C) (kn : ¬ c → xR X (enc rb) q2 L S C) : xR X (enc (if c then ra else rb)) pc L (.int y :: .int x :: S) C := by
  subst h1; subst h2
  cases cd <;> (have hc := hc.symm; subst hc; refine xR_cond (fun h => ?_) (fun h => ?_))
  all_goals first
    | exact xR_if2 K hP ha ⟨rfl, rfl⟩ (fun _ => kc h) (fun h9 => absurd h h9)
    | exact xR_if2 K hP ha ⟨rfl, rfl⟩ (fun h9 => absurd h h9) (fun _ => kc h)
    | exact xR_if2 K hP ha ⟨rfl, rfl⟩ (fun h9 => absurd h9 h) (fun _ => kn h)
    | exact xR_if2 K hP ha ⟨rfl, rfl⟩ (fun _ => kn h) (fun h9 => absurd h9 h)
theorem xR_il [Decidable c] {x y : Int64} (K : xY l cc nL own rt d X) (hP : xPq own cc tb P) (ha : xat P pc = some (.ifCond cd off, .retAddr t)) (hc : xCl cd x y = c) (h1 : cond (xCj cd) t (pc + 3) = q1) (h2 : cond (xCj cd) (pc + 3) t = q2) (kc : c → xR X (enc ra) q1 L S C) (kn : ¬ c → xR X (enc rb) q2 L S C) : xR X (enc (if c then ra else rb)) pc L (.int (lg_cmp x y) :: S) C := by
  subst h1; subst h2
  cases cd <;> (have hc := hc.symm; subst hc; refine xR_cond (fun h => ?_) (fun h => ?_))
  all_goals first
    | exact xR_if0 K hP ha ⟨rfl, rfl⟩ (fun _ => kc h) (fun h9 => absurd (by first | exact (lg_cmp_eq x y).mpr h | exact (lg_cmp_lt x y).mpr h | exact (lg_cmp_gt x y).mpr h) h9)
    | exact xR_if0 K hP ha ⟨rfl, rfl⟩ (fun h9 => absurd (by first | exact (lg_cmp_eq x y).mpr h | exact (lg_cmp_lt x y).mpr h | exact (lg_cmp_gt x y).mpr h) h9) (fun _ => kc h)
    | exact xR_if0 K hP ha ⟨rfl, rfl⟩ (fun h9 => absurd (by first | exact (lg_cmp_eq x y).mp h9 | exact (lg_cmp_lt x y).mp h9 | exact (lg_cmp_gt x y).mp h9) h) (fun _ => kn h)
    | exact xR_if0 K hP ha ⟨rfl, rfl⟩ (fun _ => kn h) (fun h9 => absurd (by first | exact (lg_cmp_eq x y).mp h9 | exact (lg_cmp_lt x y).mp h9 | exact (lg_cmp_gt x y).mp h9) h)
/-- a Boolean on the stack -/
theorem xR_ib {b : Bool} (K : xY l cc nL own rt d X) (hP : xPq own cc tb P) (ha : xat P pc = some (.ifCond cd off, .retAddr t)) (hc : cd = .eq ∨ cd = .ne) (h1 : cond (xCj cd) (pc + 3) t = q1) (h2 : cond (xCj cd) t (pc + 3) = q2) (kc : b = true → xR X (enc ra) q1 L S C) (kn : b = false → xR X (enc rb) q2 L S C) : xR X (enc (if b = true then ra else rb)) pc L (.int (xb b) :: S) C := by
  subst h1; subst h2
  cases b
  · rw [if_neg (by decide)]
    rcases hc with rfl | rfl
    · exact xR_if0 K hP ha ⟨rfl, rfl⟩ (fun _ => kn rfl) (fun h9 => absurd rfl h9)
    · exact xR_if0 K hP ha ⟨rfl, rfl⟩ (fun h9 => absurd rfl h9) (fun _ => kn rfl)
  · rw [if_pos rfl]
    rcases hc with rfl | rfl
    · exact xR_if0 K hP ha ⟨rfl, rfl⟩ (fun h9 => absurd h9 (by decide)) (fun _ => kc rfl)
    · exact xR_if0 K hP ha ⟨rfl, rfl⟩ (fun _ => kc rfl) (fun h9 => absurd h9 (by decide))
/-- a reference that is there -/
theorem xR_nn {k : Nat} (K : xY l cc nL own rt d X) (hP : xPq own cc tb P) (ha : xat P pc = some (.ifnull off, .retAddr t)) {r : xRes} (kk : xR X r (pc + 3) L S C) : xR X r pc L (.ref k :: S) C := by
  have hP := K.P hP
  obtain ⟨K, -, -⟩ := K
  obtain ⟨⟨p, l, e, s⟩, ⟨m, args, below⟩, ⟨meth, c⟩, ⟨dd, tc, ad, A0⟩, cc, nL, own, rt, d⟩ := X
  obtain ⟨hx, hb, hml, hown, hts, hr, hlk, hK⟩ := K
  obtain ⟨hT, hPk⟩ := hP
  obtain ⟨hd, hv⟩ := hPk _ (xat_ok ha)
  intro v9 C9 hr9 H locs ls hl hP0 hD hS
  exact lv_ifnull hx hb hd (kk v9 C9 hr9 H locs ls hl hP0 hD hS)
theorem xR_nnj {k : Nat} (K : xY l cc nL own rt d X) (hP : xPq own cc tb P) (ha : xat P pc = some (.ifnonnull off, .retAddr t)) {r : xRes} (kk : xR X r t L S C) : xR X r pc L (.ref k :: S) C := by
  have hP := K.P hP
  obtain ⟨K, -, -⟩ := K
  obtain ⟨⟨p, l, e, s⟩, ⟨m, args, below⟩, ⟨meth, c⟩, ⟨dd, tc, ad, A0⟩, cc, nL, own, rt, d⟩ := X
  obtain ⟨hx, hb, hml, hown, hts, hr, hlk, hK⟩ := K
  obtain ⟨hT, hPk⟩ := hP
  obtain ⟨hd, hv⟩ := hPk _ (xat_ok ha)
  intro v9 C9 hr9 H locs ls hl hP0 hD hS
  exact lv_ifnonnull hx hb hd (xkv_off hv) (kk v9 C9 hr9 H locs ls hl hP0 hD hS)
/-! ends -/
theorem xR_ret {x : Int32} (K : xY l cc nL own (some .int) d X) (hP : xPq own cc tb P) (ha : xat P pc = some (.ireturn, .null)) : xR X (some (some (.int x), C)) pc L [.int x] C := by
  have hP := K.P hP
  obtain ⟨K, hq, -⟩ := K
  obtain ⟨⟨p, l, e, s⟩, ⟨m, args, below⟩, ⟨meth, c⟩, ⟨dd, tc, ad, A0⟩, cc, nL, own, rt, d⟩ := X
  obtain ⟨hx, hb, hml, hown, hts, hr, hlk, hK⟩ := K
  obtain ⟨hT, hPk⟩ := hP
  obtain ⟨hd, hv⟩ := hPk _ (xat_ok ha)
  cases hq
  intro v9 C9 hr9 H locs ls hl hP0 hD hS
  cases hr9
  exact W.iret hx hb hr (fun t ht hW => ⟨rfl, by rw [ht]; exact hP0, hS.F ht⟩) hS.2.2 hd hlk
theorem xR_retb {b : Bool} (K : xY l cc nL own (some .boolean) d X) (hP : xPq own cc tb P) (ha : xat P pc = some (.ireturn, .null)) : xR X (some (some (.int (xb b)), C)) pc L [.int (xb b)] C := by
  have hP := K.P hP
  obtain ⟨K, hq, -⟩ := K
  obtain ⟨⟨p, l, e, s⟩, ⟨m, args, below⟩, ⟨meth, c⟩, ⟨dd, tc, ad, A0⟩, cc, nL, own, rt, d⟩ := X
  obtain ⟨hx, hb, hml, hown, hts, hr, hlk, hK⟩ := K
  obtain ⟨hT, hPk⟩ := hP
  obtain ⟨hd, hv⟩ := hPk _ (xat_ok ha)
  cases hq
  intro v9 C9 hr9 H locs ls hl hP0 hD hS
  cases hr9
  exact W.zret hx hb hr (by cases b <;> rfl) (fun t ht hW => ⟨rfl, by rw [ht]; exact hP0, hS.F ht⟩) hS.2.2 hd hlk
theorem xR_retl {x : Int64} (K : xY l cc nL own (some .long) d X) (hP : xPq own cc tb P) (ha : xat P pc = some (.lreturn, .null)) : xR X (some (some (.long x), C)) pc L [.long x] C := by
  have hP := K.P hP
  obtain ⟨K, hq, -⟩ := K
  obtain ⟨⟨p, l, e, s⟩, ⟨m, args, below⟩, ⟨meth, c⟩, ⟨dd, tc, ad, A0⟩, cc, nL, own, rt, d⟩ := X
  obtain ⟨hx, hb, hml, hown, hts, hr, hlk, hK⟩ := K
  obtain ⟨hT, hPk⟩ := hP
  obtain ⟨hd, hv⟩ := hPk _ (xat_ok ha)
  cases hq
  intro v9 C9 hr9 H locs ls hl hP0 hD hS
  cases hr9
  exact W.lret hx hb hr (fun t ht hW => ⟨rfl, by rw [ht]; exact hP0, hS.F ht⟩) hS.2.2 hd hlk
theorem xR_retv (K : xY l cc nL own none d X) (hP : xPq own cc tb P) (ha : xat P pc = some (.return_, .null)) : xR X (some (none, C)) pc L [] C := by
  have hP := K.P hP
  obtain ⟨K, hq, -⟩ := K
  obtain ⟨⟨p, l, e, s⟩, ⟨m, args, below⟩, ⟨meth, c⟩, ⟨dd, tc, ad, A0⟩, cc, nL, own, rt, d⟩ := X
  obtain ⟨hx, hb, hml, hown, hts, hr, hlk, hK⟩ := K
  obtain ⟨hT, hPk⟩ := hP
  obtain ⟨hd, hv⟩ := hPk _ (xat_ok ha)
  cases hq
  intro v9 C9 hr9 H locs ls hl hP0 hD hS
  cases hr9
  exact W.vret hx hb hr (fun t ht hW => ⟨rfl, by rw [ht]; exact hP0, hS.F ht⟩) hS.2.2 hd hlk
end XBC
