/-! NOTHING DONE YET -/
def w0I (k : Nat) : Int32 := cond (Nat.beq k 14 || Nat.beq k 20029) 1 (cond (Nat.beq k 204 || Nat.beq k 6704 || Nat.beq k 7006 || Nat.beq k 7008 || Nat.beq k 20009 || Nat.beq k 20011 || Nat.beq k 20012) (-1) 0)
def w0J (k : Nat) : Int64 := cond (Nat.beq k 20057) 1 0
def w0B (k : Nat) : Bool := false
def w0M (k : Nat) : Nat → Int64 := fun _ => 0
section IW
variable (l r f g h : Nat → Int32)
def w0A (k : Nat) : Nat → Int32 := cond (Nat.beq k 32 || Nat.beq k 42 || Nat.beq k 53) l (cond (Nat.beq k 33 || Nat.beq k 43 || Nat.beq k 54) r (cond (Nat.beq k 211) f (cond (Nat.beq k 230) g (cond (Nat.beq k 231) h (fun _ => 0)))))
def w0Q : QT := (0, 0, 0, 0, fun _ => 0, fun _ => 0, fun _ => 0, fun _ => 0, fun _ => 0, l, r, fun _ => 0, fun _ => 0, 0, fun _ => 0)
end IW
def w0g : GH := fun _ _ => 0
def w0k : GK := (0, fun _ => 0)
theorem w0W : gW w0g := by
  refine ⟨fun t ht => ⟨Nat.zero_le _, Nat.zero_le _, Nat.zero_le _, fun _ => rfl, rfl⟩, fun t ht p => absurd p (Nat.lt_irrefl 0), fun t ht p => absurd p (Nat.lt_irrefl 0), fun t ht p => absurd p (Nat.lt_irrefl 0), fun t u ht hu p => absurd p (Nat.lt_irrefl 0), ⟨fun j hj => ⟨Nat.zero_le _, fun t e => by cases e⟩, fun k hk => ⟨Nat.zero_le _, fun t e => by cases e⟩⟩, fun t ht e k hk => rfl⟩
section IV
variable {l r f g h : Nat → Int32} {Q : Nat → QT}
theorem vW_0 (hl : ∀ j, j < 160 → l j = -1) (hr : ∀ k, k < 8 → r k = -1) (hf : ∀ j, j < 6 → f j = -1) (hg : ∀ j, j < 160 → g j = -1) (hh : ∀ k, k < 8 → h k = -1) : vW 0 w0I w0J w0B (w0A l r f g h) w0M Q := by
  have p0 : vP0 0 0 w0I (w0A l r f g h) w0M := Or.inl ⟨rfl, rfl, rfl, rfl, fun w hw => rfl, rfl, rfl, rfl, fun w hw => hf _ (by omega)⟩
  obtain ⟨P, E, p1⟩ := vP1_of (by decide) p0
  have S : rS 0 w0g w0k (w0A l r f g h 223) (w0A l r f g h 224) (w0A l r f g h 225) (w0A l r f g h 226) (w0A l r f g h 227) (w0A l r f g h 228) (w0A l r f g h 229) (w0A l r f g h 230) (w0A l r f g h 231) (w0A l r f g h 232) (w0A l r f g h 233) := by
    refine ⟨fun st sT hst => ⟨fun t ht => ⟨rfl, hst t ht⟩, fun t ht p => absurd p (Nat.lt_irrefl 0), fun t ht p => absurd (show (0 : Nat) = 1 from p) (by decide), fun j hj => ?_, fun k hk => ?_⟩, ⟨rfl, by decide, fun i hi => absurd hi (by show ¬ i < 3 * 0; omega)⟩, rfl⟩
    · show g (160 * 0 + j) = _
      rw [hg _ (by omega)]
      rfl
    · show h (8 * 0 + k) = _
      rw [hh _ (by omega)]
      rfl
  have e0 : gTr w0g = 0 := by decide +kernel
  have z0 : ∀ q : Nat → Bool, (∀ t, t < 40 → q t = false) → zh 0 q := fun q hq => zh_cong zh_0 (fun t ht => (hq t ht).symm)
  have Y : cY w0g (w0A l r f g h 27) (w0A l r f g h 28) (w0A l r f g h 29) (w0A l r f g h 30) (w0A l r f g h 31) (w0A l r f g h 32) (w0A l r f g h 33) (w0A l r f g h 34) (w0M 35) (w0J 2609) (w0J 2610) (w0I 2611) (w0I 2612) := by
    refine ⟨fun t ht => rfl, fun t ht p => absurd p (Nat.lt_irrefl 0), ⟨fun j hj => hl j hj, fun k hk => hr k hk⟩, fun w hw => by rw [e0] at hw; omega, fun t ht => z0 _ (fun u hu => rfl), z0 _ (fun u hu => rfl), z0 _ (fun u hu => rfl), by rw [e0]; rfl, rfl⟩
  refine ⟨0, fun _ => 0, 1, 0, 0, P, E, w0g, w0k, 0, 0, 0, fun _ => w0g, fun _ => w0k, 0, fun _ => 0, 0, ⟨⟨by decide, fun i hi => absurd hi (by omega)⟩, rfl, rfl⟩, fun j hj => rfl, ⟨by decide, rfl, rfl⟩, ⟨rfl, rfl⟩, ⟨by decide, rfl, rfl, p0, p1⟩, ⟨w0W, by decide, fun _ t ht => rfl, S, Y, rfl, by decide, fun i hi => absurd hi (by show ¬ i < 3 * 0; omega)⟩, ⟨⟨by decide, by decide, by decide⟩, ⟨rfl, rfl, rfl, rfl⟩, fun i hi => absurd hi (by omega), fun i hi => absurd hi (by omega)⟩, ⟨0, Nat.le_refl _, rfl, Or.inl rfl, Or.inl rfl, fun e => absurd e (by decide), fun t ht e => absurd e (by decide)⟩, ⟨⟨by decide, fun i hi => absurd hi (by omega)⟩, ⟨rfl, fun j hj => absurd hj (by omega)⟩, rfl, fun i hi => absurd hi (by omega)⟩, ⟨by decide, rfl, rfl, fun j hj => absurd hj (by omega)⟩⟩
end IV
