/-! one instruction, a function -/
theorem xtb_in {i : Nat} {w : Cond} (h : lw_tbl[i]? = some w) (hg : goodWord w = true) : w ∈ xtb := List.mem_filter.mpr ⟨List.mem_of_getElem? h, hg⟩
theorem xtb_ins (ws : List Cond) (ps : List Nat) (hp : ws = ps.filterMap (fun i => lw_tbl[i]?)) (h : ws.all goodWord = true) : ∀ w ∈ ws, w ∈ xtb := fun w hw => by
  have hg := List.all_eq_true.mp h w hw
  rw [hp] at hw
  obtain ⟨i, -, hi⟩ := List.mem_filterMap.mp hw
  have hi : lw_tbl[i]? = some w := hi
  exact xtb_in hi hg
def xlen (I : Instr) : Nat := match I with
  | .iload _ | .lload _ | .aload _ | .istore _ | .lstore _ | .astore _ | .bipush _ | .ldc _ | .newarray _ => 2
  | .sipush _ | .ldc_w _ | .ldc2_w _ | .iinc _ _ | .getfield _ | .putfield _ | .getstatic _ | .goto _ | .ifCond _ _ | .if_icmp _ _ | .ifnull _ | .ifnonnull _ | .invokevirtual _ | .invokestatic _ | .invokespecial _ | .new _ | .anewarray _ => 3
  | _ => 1
def xfl : List (Nat × Nat × Nat) → Nat → Option Nat
  | [], _ => none
  | (j, z, _) :: r, i => match Nat.beq j i with
    | true => some z
    | false => xfl r i
def xcl0 : List (Nat × Value × Nat) → Nat → Option Value
  | [], _ => none
  | (j, z, _) :: r, i => match Nat.beq j i with
    | true => some z
    | false => xcl0 r i
theorem xfl_ok : ∀ {ft : List (Nat × Nat × Nat)} {i z : Nat}, xfl ft i = some z → ∃ n, (i, z, n) ∈ ft
  | [], i, z, h => by simp [xfl] at h
  | (j, z0, n) :: r, i, z, h => by
    unfold xfl at h
    split at h
    · rename_i hb
      cases h
      exact ⟨n, by rw [← Nat.eq_of_beq_eq_true hb]; exact List.mem_cons_self⟩
    · obtain ⟨n', h'⟩ := xfl_ok h
      exact ⟨n', List.mem_cons_of_mem _ h'⟩
theorem xcl0_ok : ∀ {ft : List (Nat × Value × Nat)} {i : Nat} {z : Value}, xcl0 ft i = some z → ∃ n, (i, z, n) ∈ ft
  | [], i, z, h => by simp [xcl0] at h
  | (j, z0, n) :: r, i, z, h => by
    unfold xcl0 at h
    split at h
    · rename_i hb
      cases h
      exact ⟨n, by rw [← Nat.eq_of_beq_eq_true hb]; exact List.mem_cons_self⟩
    · obtain ⟨n', h'⟩ := xcl0_ok h
      exact ⟨n', List.mem_cons_of_mem _ h'⟩
/-- the tables of a class: its field entries, its constants -/
abbrev xTb : Type := List (Nat × Nat × Nat) × List (Nat × Value × Nat)
def xTab (own : String) (tb : xTb) : Prop :=
  (∀ q ∈ tb.1, ∃ r : vw_C, xcl[q.2.1 / 100]? = some r ∧ q.2.1 % 100 < r.2.2 ∧ (r.2.1 (q.2.1 % 100)).1 = r.1 ∧ Cond.fieldLink own q.1 r.1 (r.2.1 (q.2.1 % 100)).2.1 (r.2.1 (q.2.1 % 100)).2.2.1 ∈ xtb) ∧
  (∀ q ∈ tb.2, (∃ v : Int32, q.2.1 = .int v ∧ Cond.constant own q.1 v ∈ xtb) ∨ (∃ v : Int64, q.2.1 = .long v ∧ Cond.constantLong own q.1 v ∈ xtb))
def xtabF (own : String) (q : Nat × Nat × Nat) : Bool := match xcl[q.2.1 / 100]? with
  | some r => decide (q.2.1 % 100 < r.2.2) && decide ((r.2.1 (q.2.1 % 100)).1 = r.1) && decide (lw_tbl[q.2.2]? = some (Cond.fieldLink own q.1 r.1 (r.2.1 (q.2.1 % 100)).2.1 (r.2.1 (q.2.1 % 100)).2.2.1))
  | none => false
def xtabC (own : String) (q : Nat × Value × Nat) : Bool := match q.2.1 with
  | .int v => decide (lw_tbl[q.2.2]? = some (Cond.constant own q.1 v))
  | .long v => decide (lw_tbl[q.2.2]? = some (Cond.constantLong own q.1 v))
  | _ => false
theorem xTab_of {own : String} {tb : xTb} (h1 : tb.1.all (xtabF own) = true) (h2 : tb.2.all (xtabC own) = true) : xTab own tb := by
  refine ⟨fun q hq => ?_, fun q hq => ?_⟩
  · have h := List.all_eq_true.mp h1 q hq
    unfold xtabF at h
    split at h
    · rename_i r hr
      simp only [Bool.and_eq_true, decide_eq_true_eq] at h
      exact ⟨r, hr, h.1.1, h.1.2, xtb_in h.2 rfl⟩
    · cases h
  · have h := List.all_eq_true.mp h2 q hq
    unfold xtabC at h
    split at h
    · rename_i v hv
      exact Or.inl ⟨v, hv, xtb_in (of_decide_eq_true h) rfl⟩
    · rename_i v hv
      exact Or.inr ⟨v, hv, xtb_in (of_decide_eq_true h) rfl⟩
    · cases h
def xki (v : Value) : Bool := match v with
  | .int _ => true
  | _ => false
def xkl (v : Value) : Bool := match v with
  | .long _ => true
  | _ => false
def xkv (tb : xTb) (pc : Nat) (I : Instr) : Option Value := match I with
  | .iconst n => some (.int (Int32.ofInt n))
  | .bipush n => some (.int (Int8.ofInt n).toInt32)
  | .sipush n => some (.int (Int16.ofInt n).toInt32)
  | .lconst n => some (.long (Int64.ofNat (n : Nat)))
  | .ldc i => (xcl0 tb.2 i).filter xki
  | .ldc_w i => (xcl0 tb.2 i).filter xki
  | .ldc2_w i => (xcl0 tb.2 i).filter xkl
  | .getfield i => (xfl tb.1 i).map .retAddr
  | .putfield i => (xfl tb.1 i).map .retAddr
  | .iinc _ n => some (.int (Int32.ofInt n))
  | .goto off => if 0 ≤ (pc : Int) + off then some (.retAddr ((pc : Int) + off).toNat) else none
  | .ifCond _ off => if 0 ≤ (pc : Int) + off then some (.retAddr ((pc : Int) + off).toNat) else none
  | .if_icmp _ off => if 0 ≤ (pc : Int) + off then some (.retAddr ((pc : Int) + off).toNat) else none
  | .ifnull off => if 0 ≤ (pc : Int) + off then some (.retAddr ((pc : Int) + off).toNat) else none
  | .ifnonnull off => if 0 ≤ (pc : Int) + off then some (.retAddr ((pc : Int) + off).toNat) else none
  | _ => some .null
/-- a method's code: place, instruction, its constant -/
abbrev xPg : Type := List (Nat × Instr × Value)
def xPok (cc : ByteArray) (tb : xTb) (P : xPg) : Prop := ∀ q ∈ P, decode cc q.1 = .ok (q.2.1, xlen q.2.1) ∧ xkv tb q.1 q.2.1 = some q.2.2
def xPchk (cc : ByteArray) (tb : xTb) (q : Nat × Instr × Value) : Bool := (match decode cc q.1 with
  | .ok (I, n) => decide (I = q.2.1) && Nat.beq n (xlen q.2.1)
  | _ => false) && decide (xkv tb q.1 q.2.1 = some q.2.2)
theorem xPok_of {cc : ByteArray} {tb : xTb} {P : xPg} (h : P.all (xPchk cc tb) = true) : xPok cc tb P := by
  intro q hq
  have h1 := List.all_eq_true.mp h q hq
  unfold xPchk at h1
  rw [Bool.and_eq_true] at h1
  refine ⟨?_, of_decide_eq_true h1.2⟩
  have h2 := h1.1
  split at h2
  · rename_i I n hd
    simp only [Bool.and_eq_true, decide_eq_true_eq] at h2
    rw [hd, h2.1, Nat.eq_of_beq_eq_true h2.2]
  · cases h2
def xat : xPg → Nat → Option (Instr × Value)
  | [], _ => none
  | (j, I, v) :: r, pc => match Nat.beq j pc with
    | true => some (I, v)
    | false => xat r pc
theorem xat_ok : ∀ {P : xPg} {pc : Nat} {I : Instr} {v : Value}, xat P pc = some (I, v) → (pc, I, v) ∈ P
  | [], pc, I, v, h => by simp [xat] at h
  | (j, I0, v0) :: r, pc, I, v, h => by
    unfold xat at h
    split at h
    · rename_i hb
      cases h
      rw [← Nat.eq_of_beq_eq_true hb]
      exact List.mem_cons_self
    · exact List.mem_cons_of_mem _ (xat_ok h)
def xP (X : xCtx) (tb : xTb) (P : xPg) : Prop := xTab X.2.2.2.2.2.2.1 tb ∧ xPok X.2.2.2.2.1 tb P
/-! the straight ops -/
def xldi (L : xLo) (i : Nat) (S : List Value) : Option (List Value) := match L[i]? with
  | some (some (.int x)) => some (.int x :: S)
  | _ => none
def xldl (L : xLo) (i : Nat) (S : List Value) : Option (List Value) := match L[i]? with
  | some (some (.long x)) => some (.long x :: S)
  | _ => none
def xlda (L : xLo) (i : Nat) (S : List Value) : Option (List Value) := match L[i]? with
  | some (some (.ref x)) => some (.ref x :: S)
  | _ => none
def xsti (L : xLo) (i : Nat) (S : List Value) : Option (xLo × List Value) := match S with
  | .int x :: r => if i < L.length then some (xsto1 L i (.int x), r) else none
  | _ => none
def xsta (L : xLo) (i : Nat) (S : List Value) : Option (xLo × List Value) := match S with
  | .ref x :: r => if i < L.length then some (xsto1 L i (.ref x), r) else none
  | _ => none
def xstl (L : xLo) (i : Nat) (S : List Value) : Option (xLo × List Value) := match S with
  | .long x :: r => if i + 1 < L.length then some (xsto2 L i (.long x), r) else none
  | _ => none
def xinc (L : xLo) (i : Nat) (v : Value) : Option xLo := match L[i]?, v with
  | some (some (.int x)), .int k => some (xsto1 L i (.int (x + k)))
  | _, _ => none
def xop1 (I : Instr) (v : Value) (L : xLo) (S : List Value) : Option (xLo × List Value) := match I with
  | .iconst _ => some (L, v :: S)
  | .bipush _ => some (L, v :: S)
  | .sipush _ => some (L, v :: S)
  | .lconst _ => some (L, v :: S)
  | .ldc _ => some (L, v :: S)
  | .ldc_w _ => some (L, v :: S)
  | .ldc2_w _ => some (L, v :: S)
  | .iload i => (xldi L i S).map (fun s => (L, s))
  | .iload_n i => (xldi L i S).map (fun s => (L, s))
  | .lload i => (xldl L i S).map (fun s => (L, s))
  | .lload_n i => (xldl L i S).map (fun s => (L, s))
  | .aload i => (xlda L i S).map (fun s => (L, s))
  | .aload_n i => (xlda L i S).map (fun s => (L, s))
  | .istore i => xsti L i S
  | .istore_n i => xsti L i S
  | .lstore i => xstl L i S
  | .lstore_n i => xstl L i S
  | .astore i => xsta L i S
  | .astore_n i => xsta L i S
  | .iinc i _ => (xinc L i v).map (fun l => (l, S))
  | _ => none
def xop2 (I : Instr) (S : List Value) : Option (List Value) := match I, S with
  | .iadd, .int y :: .int x :: r => some (.int (x + y) :: r)
  | .isub, .int y :: .int x :: r => some (.int (x - y) :: r)
  | .imul, .int y :: .int x :: r => some (.int (x * y) :: r)
  | .iand, .int y :: .int x :: r => some (.int (x &&& y) :: r)
  | .ior, .int y :: .int x :: r => some (.int (x ||| y) :: r)
  | .ixor, .int y :: .int x :: r => some (.int (x ^^^ y) :: r)
  | .ishl, .int y :: .int x :: r => some (.int (x <<< (y &&& 31)) :: r)
  | .ishr, .int y :: .int x :: r => some (.int (x >>> (y &&& 31)) :: r)
  | .iushr, .int y :: .int x :: r => some (.int (x.toUInt32 >>> (y.toUInt32 &&& Int32.toUInt32 31)).toInt32 :: r)
  | .i2l, .int x :: r => some (.long x.toInt64 :: r)
  | _, _ => none
def xop3 (I : Instr) (S : List Value) : Option (List Value) := match I, S with
  | .ladd, .long y :: .long x :: r => some (.long (x + y) :: r)
  | .lsub, .long y :: .long x :: r => some (.long (x - y) :: r)
  | .lmul, .long y :: .long x :: r => some (.long (x * y) :: r)
  | .land, .long y :: .long x :: r => some (.long (x &&& y) :: r)
  | .lor, .long y :: .long x :: r => some (.long (x ||| y) :: r)
  | .lxor, .long y :: .long x :: r => some (.long (x ^^^ y) :: r)
  | .lneg, .long x :: r => some (.long (-x) :: r)
  | .lshl, .int y :: .long x :: r => some (.long (x <<< (y.toInt64 &&& 63)) :: r)
  | .lshr, .int y :: .long x :: r => some (.long (x >>> (y.toInt64 &&& 63)) :: r)
  | .lushr, .int y :: .long x :: r => some (.long (x.toUInt64 >>> (y.toInt64.toUInt64 &&& Int64.toUInt64 63)).toInt64 :: r)
  | .l2i, .long x :: r => some (.int x.toInt32 :: r)
  | .lcmp, .long y :: .long x :: r => some (.int (lg_cmp x y) :: r)
  | _, _ => none
def xc1 (v : Value) : Bool := match v with
  | .int _ | .ref _ => true
  | _ => false
def xop4 (I : Instr) (S : List Value) : Option (List Value) := match I, S with
  | .dup, v :: r => if xc1 v = true then some (v :: v :: r) else none
  | .pop, v :: r => if xc1 v = true then some r else none
  | .dup2, v :: w :: r => if xc1 v = true ∧ xc1 w = true then some (v :: w :: v :: w :: r) else none
  | _, _ => none
/-- with what must hold: a divisor, an index -/
def xop5 (I : Instr) (S : List Value) (C : xC) : Option (List Value × Prop) := match I, S with
  | .idiv, .int y :: .int x :: r => some (.int (x / y) :: r, ¬ y = 0)
  | .irem, .int y :: .int x :: r => some (.int (x - x / y * y) :: r, ¬ y = 0)
  | .ldiv, .long y :: .long x :: r => some (.long (x / y) :: r, ¬ y = 0)
  | .lrem, .long y :: .long x :: r => some (.long (x - x / y * y) :: r, ¬ y = 0)
  | .iaload, .int i :: .ref a :: r => match xpos 0 C a with
    | some (_, .inl (0, n, .inl f)) => some (.int (f i.toNatClampNeg) :: r, vp_in i n)
    | _ => none
  | .laload, .int i :: .ref a :: r => match xpos 0 C a with
    | some (_, .inl (1, n, .inr (.inl f))) => some (.long (f i.toNatClampNeg) :: r, vp_in i n)
    | _ => none
  | .baload, .int i :: .ref a :: r => match xpos 0 C a with
    | some (_, .inl (2, n, .inl f)) => some (.int (f i.toNatClampNeg) :: r, vp_in i n)
    | _ => none
  | _, _ => none
def xop6 (I : Instr) (v : Value) (S : List Value) (C : xC) : Option (List Value) := match I, v, S with
  | .getfield _, .retAddr z, .ref a :: r => match xpos 0 C a with
    | some (_, .inr (ci, fs)) => if Nat.beq ci (z / 100) = true then (fs[z % 100]?).map (fun w => w :: r) else none
    | _ => none
  | .arraylength, _, .ref a :: r => match xpos 0 C a with
    | some (_, .inl (k, n, _)) => if Nat.blt k 5 = true then some (.int (Int32.ofNat n) :: r) else none
    | _ => none
  | _, _, _ => none
def xfit (ty : FieldType) (w : Value) : Option Prop := match ty, w with
  | .int, .int _ => some True
  | .long, .long _ => some True
  | .boolean, .int x => some (x = 0 ∨ x = 1)
  | .object _, .ref _ => some True
  | .array _, .ref _ => some True
  | _, _ => none
def xfin (z : Nat) : Bool := match xcl[z / 100]? with
  | some r => (r.2.1 (z % 100)).2.2.2
  | none => true
def xop7 (I : Instr) (v : Value) (S : List Value) (C : xC) : Option (List Value × xC × Prop) := match I, v, S with
  | .putfield _, .retAddr z, w :: .ref a :: r => match xpos 0 C a with
    | some (n, .inr (ci, fs)) => if Nat.beq ci (z / 100) = true ∧ Nat.blt (z % 100) fs.length = true ∧ xfin z = false then (xfit (xty ci (z % 100)) w).map (fun P => (r, C.set n (a, .inr (ci, fs.set (z % 100) w)), P)) else none
    | _ => none
  | .iastore, _, .int x :: .int i :: .ref a :: r => match xpos 0 C a with
    | some (q, .inl (0, n, .inl f)) => some (r, C.set q (a, .inl (0, n, .inl (upd f i.toNatClampNeg x))), vp_in i n)
    | _ => none
  | .lastore, _, .long x :: .int i :: .ref a :: r => match xpos 0 C a with
    | some (q, .inl (1, n, .inr (.inl f))) => some (r, C.set q (a, .inl (1, n, .inr (.inl (vp_updL f i.toNatClampNeg x)))), vp_in i n)
    | _ => none
  | .bastore, _, .int x :: .int i :: .ref a :: r => match xpos 0 C a with
    | some (q, .inl (2, n, .inl f)) => some (r, C.set q (a, .inl (2, n, .inl (upd f i.toNatClampNeg (vp_nar .boolean x)))), vp_in i n)
    | _ => none
  | _, _, _ => none
