/-- what a text has told so far: 0 units, churn, statements, things, roots told, a train due; 1 names, 2 sizes, 3 begins, 4 how many links, 5 links, 6 the name's sign, 7 roots, 8 where codes begin, 9 how many -/
abbrev NP : Type := Nat → Nat → Nat
/-- fault, place, next sign, plan, codes -/
abbrev NS : Type := Nat × Nat × Nat × NP × List (Nat × Nat)
def sOk (k : Nat) (P : NP) (L : List (Nat × Nat)) : NS := (0, 0, k, P, L)
def sBad (f p : Nat) (P : NP) : NS := (f, p, 0, P, [])
section ST
variable (K V St : Nat → Nat)
/-- the thing of this name, one more; 0 if none -/
def nNam (P : NP) (v : Nat) : Nat → Nat → Nat
  | 0, _ => 0
  | f + 1, t => if t < P 0 3 then (if P 1 t = v then t + 1 else nNam P v f (t + 1)) else 0
def nNamed (P : NP) (v : Nat) : Nat := nNam P v 24 0
/-- a number between two: the next sign and it -/
def nNum (k lo hi : Nat) (r : Nat → NS) (P : NP) : NS := if K k = 2 then (if V k < lo ∨ hi < V k then sBad 4 (St k) P else r (V k)) else sBad 1 (gWh K V St k) P
def nOwn (k w : Nat) (r : NS) (P : NP) : NS := if gOw K V k w = true then r else sBad 1 (gWh K V St k) P
def nSgn (k c : Nat) (r : NS) (P : NP) : NS := if gSg K V k c = true then r else sBad 1 (gWh K V St k) P
/-- a thing that is named -/
def nKnown (k : Nat) (P : NP) (r : Nat → NS) : NS := if K k = 3 then (if nNamed P (V k) = 0 then sBad 3 (St k) P else r (nNamed P (V k) - 1)) else sBad 1 (gWh K V St k) P
def nThing (k : Nat) (P : NP) (L : List (Nat × Nat)) : NS :=
  if 24 ≤ P 0 3 then sBad 6 (St k) P
  else if K (k + 1) = 3 then (if nNamed P (V (k + 1)) = 0 then
    nOwn K V St (k + 2) 2 (nNum K V St (k + 3) 1 (P 0 0) (fun v => sOk (k + 4) (gset (gset (gset (gset (gset (gset P 1 (P 0 3) (V (k + 1))) 6 (P 0 3) (k + 1)) 2 (P 0 3) v) 3 (P 0 3) (P 0 5)) 0 5 0) 0 3 (P 0 3 + 1)) L) P) P
    else sBad 2 (St (k + 1)) P)
  else sBad 1 (gWh K V St (k + 1)) P
def nLink (k : Nat) (P : NP) (L : List (Nat × Nat)) : NS :=
  nKnown K V St (k + 1) P (fun a => if 4 ≤ P 4 a then sBad 6 (St k) P else
    nOwn K V St (k + 2) 5 (nKnown K V St (k + 3) P (fun b => sOk (k + 4) (gset (gset P 5 (4 * a + P 4 a) (b + 1)) 4 a (P 4 a + 1)) L)) P)
def nRoot (k : Nat) (P : NP) (L : List (Nat × Nat)) : NS :=
  if 8 ≤ P 0 4 then sBad 6 (St k) P else nKnown K V St (k + 1) P (fun a => sOk (k + 2) (gset (gset P 7 (P 0 4) (a + 1)) 0 4 (P 0 4 + 1)) L)
def nForm (w k : Nat) (P : NP) (L : List (Nat × Nat)) : NS :=
  if 0 < P 9 w then sBad 6 (St k) P else
    let r := gRec K V St w 60 (if w = 2 then 2 else 1) 0 (k + 1) 0
    if r.1 = 0 then sOk r.2.2.1 (gset (gset P 8 w L.length) 9 w r.2.2.2.length) (L ++ r.2.2.2) else sBad r.1 r.2.1 P
/-- what a statement tells, without its end -/
def nTell (k : Nat) (P : NP) (L : List (Nat × Nat)) : NS :=
  if gOw K V k 0 = true then nNum K V St (k + 1) 8 99 (fun v => sOk (k + 2) (gset P 0 0 v) L) P
  else if gOw K V k 1 = true then nThing K V St k P L
  else if gOw K V k 3 = true then sOk (k + 1) (gset P 0 5 (if 0 < P 0 3 then 1 else 0)) L
  else if gOw K V k 4 = true then nLink K V St k P L
  else if gOw K V k 6 = true then nRoot K V St k P L
  else if gOw K V k 7 = true then nNum K V St (k + 1) 0 100 (fun v => sOk (k + 2) (gset P 0 1 v) L) P
  else if gOw K V k 8 = true then nForm K V St 0 k P L
  else if gOw K V k 9 = true then nForm K V St 1 k P L
  else if gOw K V k 10 = true then nForm K V St 2 k P L
  else sBad 1 (gWh K V St k) P
def nStat (first : Bool) (k : Nat) (P : NP) (L : List (Nat × Nat)) : NS :=
  if gOw K V k 0 = first then
    let r := nTell K V St k P L
    if r.1 = 0 then nSgn K V St r.2.2.1 59 (sOk (r.2.2.1 + 1) (gset r.2.2.2.1 0 2 (r.2.2.2.1 0 2 + 1)) r.2.2.2.2) r.2.2.2.1 else r
  else sBad 1 (gWh K V St k) P
/-- statement by statement -/
def nRead : Nat → Nat → Nat → NP → List (Nat × Nat) → NS
  | 0, _, k, P, L => sOk k P L
  | f + 1, n, k, P, L =>
    if K k = 0 then sOk k P L
    else if n = 80 then sBad 6 (St k) P
    else
      let r := nStat K V St (decide (n = 0)) k P L
      if r.1 = 0 then nRead f (n + 1) r.2.2.1 r.2.2.2.1 r.2.2.2.2 else r
def nP0 : NP := fun _ _ => 0
def nAll (n : Nat) : NS :=
  let r := nRead K V St 81 0 0 nP0 []
  if r.1 = 0 then (if r.2.2.2.1 0 2 = 0 then sBad 1 n r.2.2.2.1 else r) else r
end ST
