/-! The abstract state of a hill: section, row, column. Sections: 0 counts, beds, purse, year (in the reference's order), 1 stretches, 2 rain, 3 texts, 4 + t tables (trips, mends, chosen, donors, loads, people, jobs). -/
abbrev mm_A : Type := Nat → Nat → Nat → Nat
def tH (t : Nat) : Nat := mm_at 0 [1, 3, 4, 5, 6, 7, 8] t
def tB (t : Nat) : Nat := mm_at 0 [156, 192, 272, 278, 302, 312, 332] t
def tW (t : Nat) : Nat := mm_at 0 [3, 4, 1, 2, 1, 2, 2] t
def tM (t : Nat) : Nat := mm_at 0 [12, 20, 6, 12, 10, 10, 4] t
/-- the reference's sign of a code -/
def dcR (c : Nat) : Int32 := if c < 20000 then nI c else if c = 20124 then -1 else if c = 20038 then -2 else if c = 20060 then -3 else if c = 20061 then -4 else if c = 20062 then -5 else if c = 20043 then -6 else if c = 20045 then -7 else if c = 20042 then -8 else if c = 20047 then -9 else -10
/-- a stretch of the class -/
def StC (I : mm_I) (r : Nat) (f : Nat → Nat) : Prop := I 8 r 0 = nI (f 0) ∧ I 8 r 1 = nI (f 1) ∧ I 8 r 2 = nI (f 2) ∧ I 8 r 3 = nI (f 3) ∧ I 8 r 4 = nI (f 4) ∧ I 8 r 6 = nI (f 5) ∧ I 8 r 5 = nI (f 6) ∧ I 8 r 8 = nI (f 7) ∧ I 8 r 7 = nI (f 8)
/-- its bounds -/
def StG (f : Nat → Nat) : Prop := f 0 ≤ 9 ∧ f 1 ≤ 9 ∧ f 0 ≠ f 1 ∧ 1 ≤ f 2 ∧ f 2 ≤ 99 ∧ f 3 ≤ 9 ∧ f 4 ≤ 2 ∧ 1 ≤ f 5 ∧ f 5 ≤ 9999 ∧ f 6 ≤ 3 ∧ f 7 ≤ 1 ∧ f 8 ≤ 4
def effN (k l s w : Nat) : Nat := if k = 1 then l * (10 + s) + w / 10 + 5 * s else if k = 2 then l * (10 + s) + w / 10 - l else if k = 3 then l * (10 + s) + w / 10 + 5 * s - 2 * l else if k = 4 then (l * (10 + s) + w / 10 - l) / 2 else l * (10 + s) + w / 10
def effF (f : Nat → Nat) : Nat := effN (f 8) (f 2) (f 3) (f 5)
def wrN (k s o b r : Nat) : Nat := if k = 1 then (b * (s + 1) * 2 ^ o / 100 + r * s / 10) / 4 else if k = 2 then b * (s + 1) * 2 ^ o / 100 + r * s / 10 - r else if k = 3 then (b * (s + 1) * 2 ^ o / 100 + r * s / 10) / 4 / 2 else if k = 4 then (b * (s + 1) * 2 ^ o / 100 + r * s / 10 - r) / 3 + 1 else b * (s + 1) * 2 ^ o / 100 + r * s / 10
def wrF (f : Nat → Nat) (b r : Nat) : Nat := wrN (f 8) (f 3) (f 4) b r
def brN (w : Nat) : Nat := if 60 < w then w / 30 else 0
def wdN (w m : Nat) : Nat := if 9999 ≤ w + m then 9999 else w + m
def hdN (k l s o : Nat) : Int32 := if k = 1 ∨ k = 3 then nI (20 - 2 * s + (if o = 0 then 5 else 0) + 10) else if k = 2 then nI (20 - 2 * s + (if o = 0 then 5 else 0)) - nI (wrN k s o 100 5) else if k = 4 then nI (20 - 2 * s + (if o = 0 then 5 else 0)) - nI (wrN k s o 100 5) - nI (l / 2) else nI (20 - 2 * s + (if o = 0 then 5 else 0))
def hdF (f : Nat → Nat) : Int32 := hdN (f 8) (f 2) (f 3) (f 4)
def isN (k a : Nat) : Bool := a == 0 || a == k || (a == 1 && k == 3) || (a == 2 && k == 4)
/-- the class holds A in its hills h -/
def RepC (h : Nat) (A : mm_A) (I : mm_I) : Prop :=
  (I 3 h 1 = nI (A 0 0 0) ∧ I 3 h 5 = nI (A 0 0 2) ∧ I 3 h 13 = nI (A 0 0 9) ∧ I 3 h 7 = nI (A 0 0 10) ∧ I 3 h 4 = nI (A 0 0 11)) ∧
  (∀ t, t < 7 → I 7 (7 * h + t) 3 = nI (A 0 0 (tH t))) ∧
  (∀ p, p < A 0 0 0 → StC I (16 * h + p) (A 1 p)) ∧
  (∀ y, y < 201 → I 28 h y = nI (A 2 0 y)) ∧
  (∀ r, r < A 0 0 2 → I 9 r 2 = nI (A 3 r 0) ∧ I 9 r 0 = nI (A 3 r 1) ∧ I 9 r 1 = nI (A 3 r 2) ∧ I 9 r 3 = nI (A 3 r 3) ∧ I 9 r 4 = nI (A 3 r 4) ∧ ∀ k, k < A 3 r 4 → I 38 r k = nI (A 3 r (5 + k))) ∧
  (∀ t r c, t < 7 → r < A 0 0 (tH t) → c < tW t → I 37 (7 * h + t) (r * tW t + c) = nI (A (4 + t) r c))
/-- the reference holds A in its row a -/
def RepR (a : Nat) (A : mm_A) (I : mm_I) : Prop :=
  (∀ c, c < 12 → I 47 a c = nI (A 0 0 c)) ∧
  (∀ p c, p < A 0 0 0 → c < 9 → I 47 a (12 + 9 * p + c) = nI (A 1 p c)) ∧
  (∀ y, y < 201 → I 47 a (340 + y) = nI (A 2 0 y)) ∧
  (∀ r, r < A 0 0 2 → I 47 a (541 + 4 * r) = nI (1000 * A 3 r 0 + A 3 r 4) ∧ I 47 a (541 + 4 * r + 1) = nI (A 3 r 1) ∧ I 47 a (541 + 4 * r + 2) = nI (A 3 r 2) ∧ I 47 a (541 + 4 * r + 3) = nI (A 3 r 3) ∧ ∀ k, k < A 3 r 4 → I 47 a (597 + 96 * r + k) = dcR (A 3 r (5 + k))) ∧
  (∀ t r c, t < 7 → r < A 0 0 (tH t) → c < tW t → I 47 a (tB t + tW t * r + c) = nI (A (4 + t) r c))
/-- rows that never change: how many, how broad -/
def Fix (I : mm_I) : Prop := ∀ r, r < 21 → I 7 r 1 = nI (tM (r % 7)) ∧ I 7 r 2 = nI (tW (r % 7))
/-- how high the stack is behind codes -/
def hgt : List Nat → Nat → Option Nat
  | [], h => some h
  | c :: l, h => if c < 20000 then hgt l (h + 1) else if c = 20033 then (if 0 < h then hgt l h else none) else if 1 < h then hgt l (h - 1) else none
def okC (c : Nat) : Prop := c < 10003 ∨ c = 20124 ∨ c = 20038 ∨ c = 20060 ∨ c = 20061 ∨ c = 20062 ∨ c = 20043 ∨ c = 20045 ∨ c = 20042 ∨ c = 20047 ∨ c = 20033
def cods (A : mm_A) (r : Nat) : List Nat := (List.range (A 3 r 4)).map fun k => A 3 r (5 + k)
/-- bounds of a state -/
def Good (A : mm_A) : Prop :=
  (A 0 0 0 ≤ 16 ∧ A 0 0 2 ≤ 14 ∧ A 0 0 9 ≤ 10 ∧ A 0 0 10 ≤ 999999999 ∧ A 0 0 11 ≤ 300) ∧
  (∀ t, t < 7 → A 0 0 (tH t) ≤ tM t) ∧
  (∀ p, p < A 0 0 0 → StG (A 1 p)) ∧
  (∀ y, y < 201 → A 2 0 y ≤ 20) ∧
  (∀ r, r < A 0 0 2 → A 3 r 0 ≤ 3 ∧ A 3 r 1 ≤ 3 ∧ A 3 r 2 ≤ 200 ∧ A 3 r 3 ≤ 96 ∧ A 3 r 4 ≤ 96 ∧ (∀ c ∈ cods A r, okC c) ∧ hgt (cods A r) 0 = some 1) ∧
  (∀ r, r < A 0 0 1 → A 4 r 0 ≤ 9 ∧ A 4 r 1 ≤ 9 ∧ A 4 r 0 ≠ A 4 r 1 ∧ A 4 r 2 ≤ 9999) ∧
  (∀ r, r < A 0 0 3 → A 5 r 0 < A 0 0 0 ∧ 1 ≤ A 5 r 1 ∧ A 5 r 1 ≤ 4 ∧ A 5 r 2 ≤ 200 ∧ A 5 r 3 ≤ 1) ∧
  (∀ r, r < A 0 0 4 → A 6 r 0 < A 0 0 0) ∧
  (∀ r, r < A 0 0 5 → A 7 r 0 ≤ 200 ∧ 1 ≤ A 7 r 1 ∧ A 7 r 1 ≤ 99999) ∧
  (∀ r, r < A 0 0 6 → 1 ≤ A 8 r 0 ∧ A 8 r 0 ≤ 99) ∧
  (∀ r, r < A 0 0 7 → A 9 r 0 ≤ 15 ∧ A 9 r 1 ≤ 63) ∧
  (∀ r, r < A 0 0 8 → A 10 r 0 ≤ 3 ∧ 1 ≤ A 10 r 1 ∧ A 10 r 1 ≤ 60)
