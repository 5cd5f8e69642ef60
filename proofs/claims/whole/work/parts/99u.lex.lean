/-! Texts, pure: words, and the machine that reads them. -/
/-- the first place from a on where P fails, at most a + k -/
def sk (P : Nat → Bool) : Nat → Nat → Nat
  | 0, a => a
  | k + 1, a => if P a = true then sk P k (a + 1) else a
theorem sk_b (P : Nat → Bool) : ∀ k a, a ≤ sk P k a ∧ sk P k a ≤ a + k
  | 0, a => ⟨Nat.le_refl _, Nat.le_refl _⟩
  | k + 1, a => by
    rw [sk]
    by_cases e : P a = true
    · rw [if_pos e]
      have := sk_b P k (a + 1)
      omega
    · rw [if_neg e]; omega
theorem sk_t {P : Nat → Bool} : ∀ {k a j}, a ≤ j → j < sk P k a → P j = true
  | 0, a, j, h1, h2 => by
    have : j < a := h2
    omega
  | k + 1, a, j, h1, h2 => by
    rw [sk] at h2
    by_cases e : P a = true
    · rw [if_pos e] at h2
      rcases Nat.eq_or_lt_of_le h1 with q | q
      · rw [← q]; exact e
      · exact sk_t (by omega) h2
    · rw [if_neg e] at h2; omega
theorem sk_f {P : Nat → Bool} : ∀ {k a}, sk P k a < a + k → P (sk P k a) = false
  | 0, a, h => by
    have : a < a + 0 := h
    omega
  | k + 1, a, h => by
    rw [sk] at h ⊢
    by_cases e : P a = true
    · rw [if_pos e] at h ⊢
      exact sk_f (by omega)
    · rw [if_neg e]; simpa using e
/-- the sort of a byte: 257 a letter, 258 a digit -/
def sof (b : Nat) : Nat := if 97 ≤ b ∧ b ≤ 122 then 257 else if 48 ≤ b ∧ b ≤ 57 then 258 else b
abbrev LX : Type := Nat × Nat × Nat
def bkP (T : Nat → Nat) (p : Nat) : Bool := T p == 32
def wdP (T : Nat → Nat) (f p : Nat) : Bool := sof (T p) == f
/-- the next word, sign or end: sort, start, end -/
def nxT (T : Nat → Nat) (n : Nat) (x : LX) : LX :=
  if sk (bkP T) (n - x.2.2) x.2.2 < n then
    (if sof (T (sk (bkP T) (n - x.2.2) x.2.2)) = 257 ∨ sof (T (sk (bkP T) (n - x.2.2) x.2.2)) = 258 then
      (if (x.1 = 257 ∨ x.1 = 258) ∧ sk (bkP T) (n - x.2.2) x.2.2 = x.2.2 then 259 else sof (T (sk (bkP T) (n - x.2.2) x.2.2)), sk (bkP T) (n - x.2.2) x.2.2, sk (wdP T (sof (T (sk (bkP T) (n - x.2.2) x.2.2)))) (n - (sk (bkP T) (n - x.2.2) x.2.2 + 1)) (sk (bkP T) (n - x.2.2) x.2.2 + 1))
    else (sof (T (sk (bkP T) (n - x.2.2) x.2.2)), sk (bkP T) (n - x.2.2) x.2.2, sk (bkP T) (n - x.2.2) x.2.2 + 1))
  else (256, sk (bkP T) (n - x.2.2) x.2.2, sk (bkP T) (n - x.2.2) x.2.2)
/-- well formed -/
def WX (T : Nat → Nat) (n : Nat) (x : LX) : Prop := x.1 ≤ 259 ∧ x.2.2 ≤ n ∧ ((x.1 = 256 ∧ x.2.1 = n) ∨ (x.1 ≠ 256 ∧ x.2.1 < x.2.2 ∧ (x.1 < 256 → x.1 = T x.2.1) ∧ (x.1 = 257 → ∀ p, x.2.1 ≤ p → p < x.2.2 → 97 ≤ T p ∧ T p ≤ 122) ∧ (x.1 = 258 → ∀ p, x.2.1 ≤ p → p < x.2.2 → 48 ≤ T p ∧ T p ≤ 57)))
theorem sof_b {b : Nat} (h : b ≤ 255) : sof b ≤ 258 ∧ sof b ≠ 256 := by unfold sof; split; omega; split <;> omega
theorem sof_7 {b : Nat} (h : b ≤ 255) : sof b = 257 ↔ 97 ≤ b ∧ b ≤ 122 := by unfold sof; split; omega; split <;> omega
theorem sof_8 {b : Nat} (h : b ≤ 255) : sof b = 258 ↔ 48 ≤ b ∧ b ≤ 57 := by unfold sof; split; omega; split <;> omega
theorem sof_s {b : Nat} (h : sof b < 256) : sof b = b := by unfold sof at *; split at h; omega; split at h <;> rename_i h1 h2 <;> simp [h1, h2] at * 
theorem nx_w {T : Nat → Nat} {n : Nat} {x : LX} (hT : ∀ k, k < n → T k ≤ 255) (h : x.2.2 ≤ n) : WX T n (nxT T n x) ∧ x.2.2 ≤ (nxT T n x).2.1 := by
  have hs := sk_b (bkP T) (n - x.2.2) x.2.2
  unfold nxT
  generalize sk (bkP T) (n - x.2.2) x.2.2 = s at *
  by_cases e : s < n
  · rw [if_pos e]
    have hb := sof_b (hT s e)
    by_cases e2 : sof (T s) = 257 ∨ sof (T s) = 258
    · rw [if_pos e2]
      have hw := sk_b (wdP T (sof (T s))) (n - (s + 1)) (s + 1)
      have ht : ∀ p, s ≤ p → p < sk (wdP T (sof (T s))) (n - (s + 1)) (s + 1) → sof (T p) = sof (T s) := fun p h1 h2 => by
        rcases Nat.eq_or_lt_of_le h1 with q | q
        · rw [← q]
        · have := sk_t (P := wdP T (sof (T s))) (show s + 1 ≤ p from q) h2
          exact eq_of_beq this
      refine ⟨⟨?_, ?_, Or.inr ⟨?_, ?_, ?_, ?_, ?_⟩⟩, ?_⟩
      · dsimp only; split <;> omega
      · dsimp only; omega
      · dsimp only; split <;> omega
      · dsimp only; omega
      · dsimp only; split <;> omega
      · dsimp only
        intro q p h1 h2
        have q2 : sof (T s) = 257 := by split at q <;> omega
        have := ht p h1 h2
        rw [q2] at this
        exact (sof_7 (hT p (by omega))).mp this
      · dsimp only
        intro q p h1 h2
        have q2 : sof (T s) = 258 := by split at q <;> omega
        have := ht p h1 h2
        rw [q2] at this
        exact (sof_8 (hT p (by omega))).mp this
      · exact hs.1
    · rw [if_neg e2]
      refine ⟨⟨?_, ?_, Or.inr ⟨?_, ?_, ?_, ?_, ?_⟩⟩, ?_⟩
      · dsimp only; omega
      · dsimp only; omega
      · dsimp only; omega
      · dsimp only; omega
      · dsimp only; intro q; exact sof_s q
      · dsimp only; intro q; omega
      · dsimp only; intro q; omega
      · exact hs.1
  · rw [if_neg e]
    exact ⟨⟨by dsimp only; omega, by dsimp only; omega, Or.inl ⟨rfl, by dsimp only; omega⟩⟩, hs.1⟩
/-- the number that k digits from s on spell -/
def nmT (T : Nat → Nat) (s : Nat) : Nat → Nat
  | 0 => 0
  | k + 1 => nmT T s k * 10 + (T (s + k) - 48)
theorem nmT_b {T : Nat → Nat} {s : Nat} : ∀ {k}, (∀ i, i < k → T (s + i) ≤ 57) → nmT T s k + 1 ≤ 10 ^ k
  | 0, _ => Nat.le_refl _
  | k + 1, h => by
    have h1 := nmT_b (T := T) (s := s) (k := k) (fun i hi => h i (by omega))
    have h2 := h k (by omega)
    rw [nmT, Nat.pow_succ]
    omega
/-- which name a letter is, of a key -/
def nmK (key b : Nat) : Option Nat :=
  if key = 0 then (if b = 107 then some 0 else if b = 119 then some 1 else if b = 115 then some 2 else none)
  else if key = 1 then (if b = 119 then some 0 else if b = 98 then some 1 else if b = 121 then some 2 else none)
  else if key = 2 then (if b = 107 then some 0 else if b = 108 then some 1 else if b = 111 then some 2 else none)
  else (if b = 104 then some 0 else if b = 119 then some 1 else if b = 100 then some 2 else none)
/-- the operand that stands here -/
def opd (T : Nat → Nat) (key : Nat) (x : LX) : Option Nat :=
  if x.1 = 258 then (if x.2.2 - x.2.1 ≤ 4 then some (nmT T x.2.1 (x.2.2 - x.2.1)) else none)
  else if x.1 = 257 then (if x.2.2 - x.2.1 = 1 then (nmK key (T x.2.1)).map (fun i => 10000 + i) else none)
  else none
theorem nmK_b {key b i : Nat} (h : nmK key b = some i) : i < 3 := by
  unfold nmK at h
  split at h
  · split at h
    · cases h; omega
    · split at h
      · cases h; omega
      · split at h
        · cases h; omega
        · cases h
  · split at h
    · split at h
      · cases h; omega
      · split at h
        · cases h; omega
        · split at h
          · cases h; omega
          · cases h
    · split at h
      · split at h
        · cases h; omega
        · split at h
          · cases h; omega
          · split at h
            · cases h; omega
            · cases h
      · split at h
        · cases h; omega
        · split at h
          · cases h; omega
          · split at h
            · cases h; omega
            · cases h
theorem opd_b {T : Nat → Nat} {n key c : Nat} {x : LX} (hx : WX T n x) (h : opd T key x = some c) : c < 10003 ∧ (x.1 = 257 ∨ x.1 = 258) := by
  unfold opd at h
  by_cases e : x.1 = 258
  · rw [if_pos e] at h
    by_cases e2 : x.2.2 - x.2.1 ≤ 4
    · rw [if_pos e2] at h
      cases h
      obtain ⟨-, -, q | ⟨-, q1, -, -, q2⟩⟩ := hx
      · omega
      · have := nmT_b (T := T) (s := x.2.1) (k := x.2.2 - x.2.1) (fun i hi => (q2 e (x.2.1 + i) (by omega) (by omega)).2)
        have h2 : 10 ^ (x.2.2 - x.2.1) ≤ 10 ^ 4 := Nat.pow_le_pow_right (by decide) e2
        omega
    · rw [if_neg e2] at h; cases h
  · rw [if_neg e] at h
    by_cases e2 : x.1 = 257
    · rw [if_pos e2] at h
      by_cases e3 : x.2.2 - x.2.1 = 1
      · rw [if_pos e3] at h
        cases q : nmK key (T x.2.1) with
        | none => rw [q] at h; cases h
        | some i =>
          rw [q] at h
          cases h
          have := nmK_b q
          exact ⟨by show 10000 + i < 10003; omega, Or.inl e2⟩
      · rw [if_neg e3] at h; cases h
    · rw [if_neg e2] at h; cases h
/-- how tight a sign is; 0: no sign of two -/
def rkS (b : Nat) : Nat := if b = 124 then 1 else if b = 38 then 2 else if b = 60 ∨ b = 61 ∨ b = 62 then 3 else if b = 43 ∨ b = 45 then 4 else if b = 42 ∨ b = 47 then 5 else 0
/-- of a code that waits -/
def rkC (c : Nat) : Nat := if c = 20033 then 6 else rkS (c - 20000)
theorem rkS_b (b : Nat) : rkS b ≤ 5 := by unfold rkS; split; omega; split; omega; split; omega; split; omega; split <;> omega
theorem rkS_0 {b : Nat} (h : rkS b ≠ 0) : b = 124 ∨ b = 38 ∨ b = 60 ∨ b = 61 ∨ b = 62 ∨ b = 43 ∨ b = 45 ∨ b = 42 ∨ b = 47 := by
  unfold rkS at h
  split at h
  · omega
  · split at h
    · omega
    · split at h
      · omega
      · split at h
        · omega
        · split at h
          · omega
          · omega
theorem rkC_s {b : Nat} (h : rkS b ≠ 0) : rkC (20000 + b) = rkS b := by
  have := rkS_0 h
  unfold rkC
  rw [if_neg (by omega), show 20000 + b - 20000 = b by omega]
def stl (l : Nat) : List Nat → List Nat → List Nat × List Nat
  | [], C => ([], C)
  | c :: W, C => if c = 20040 ∨ rkC c < l then (c :: W, C) else stl l W (C ++ [c])
def cnN : List Nat → Nat
  | [] => 0
  | c :: W => cnN W + (if c = 20033 then 1 else 0)
abbrev RT : Type := Bool × Nat × List Nat × Nat
def uB (t : Nat → Bool) (i : Nat) (b : Bool) : Nat → Bool := fun j => if j = i then b else t j
/-- the machine: fuel, word, whether it wants a part, what waits, codes, operands, open signs, nots, whether tested -/
def rn (T : Nat → Nat) (n key : Nat) : Nat → LX → Bool → List Nat → List Nat → Nat → Nat → Nat → (Nat → Bool) → Option RT
  | 0, _, _, _, _, _, _, _, _ => none
  | f + 1, x, true, W, C, a, o, k, t =>
    if x.1 = 33 ∧ k < 8 then rn T n key f (nxT T n x) true (20033 :: W) C a o (cnN (20033 :: W)) t
    else if x.1 = 40 ∧ o < 8 then rn T n key f (nxT T n x) true (20040 :: W) C a (o + 1) (cnN (20040 :: W)) (uB t (o + 1) false)
    else match opd T key x with
      | some c => rn T n key f (nxT T n x) false (stl 6 W (C ++ [c])).1 (stl 6 W (C ++ [c])).2 (a + 1) o (cnN (stl 6 W (C ++ [c])).1) t
      | none => some (false, x.2.1, [], 0)
  | f + 1, x, false, W, C, a, o, k, t =>
    if x.1 = 256 then (if o = 0 then some (true, 0, (stl 0 W C).2, a) else some (false, x.2.1, [], 0))
    else if x.1 = 41 ∧ 0 < o then rn T n key f (nxT T n x) false (stl 6 (stl 0 W C).1.tail (stl 0 W C).2).1 (stl 6 (stl 0 W C).1.tail (stl 0 W C).2).2 a (o - 1) (cnN (stl 6 (stl 0 W C).1.tail (stl 0 W C).2).1) t
    else if rkS x.1 = 0 ∨ (rkS x.1 = 3 ∧ t o = true) then some (false, x.2.1, [], 0)
    else rn T n key f (nxT T n x) true ((20000 + x.1) :: (stl (rkS x.1) W C).1) (stl (rkS x.1) W C).2 a o k (uB t o (decide (rkS x.1 = 3) || (decide (3 < rkS x.1) && t o)))
def RR (T : Nat → Nat) (n key : Nat) (x : LX) (w : Bool) (W C : List Nat) (a o k : Nat) (t : Nat → Bool) (r : RT) : Prop := ∃ f, rn T n key f x w W C a o k t = some r
/-- nothing is popped -/
def St (l : Nat) (W : List Nat) : Prop := ∀ C, stl l W C = (W, C)
theorem St_nil (l : Nat) : St l [] := fun _ => rfl
theorem St_o (l : Nat) (W : List Nat) : St l (20040 :: W) := fun C => by rw [stl, if_pos (Or.inl rfl)]
theorem St_c {l c : Nat} {W : List Nat} (h : rkC c < l) : St l (c :: W) := fun C => by rw [stl, if_pos (Or.inr h)]
theorem St_m {l m : Nat} {W : List Nat} (h : St l W) (hm : l ≤ m) : St m W := by
  cases W with
  | nil => exact St_nil _
  | cons c W =>
    by_cases e : c = 20040 ∨ rkC c < l
    · intro C
      rw [stl, if_pos (by omega)]
    · have := h []
      rw [stl, if_neg e] at this
      have h2 : ∀ (W : List Nat) C, (stl l W C).1.length ≤ W.length := by
        intro W
        induction W with
        | nil => intro C; exact Nat.le_refl _
        | cons d W ih =>
          intro C
          rw [stl]
          split
          · exact Nat.le_refl _
          · exact Nat.le_trans (ih _) (by rw [List.length_cons]; omega)
      have h3 := h2 W ([] ++ [c])
      rw [this, List.length_cons] at h3
      omega
/-- signs of two -/
def bnC (c : Nat) : Prop := c ≠ 20040 ∧ c ≠ 20033
theorem stl_a {l : Nat} {W : List Nat} : ∀ {V C : List Nat}, (∀ c ∈ V, c ≠ 20040 ∧ l ≤ rkC c) → stl l (V ++ W) C = stl l W (C ++ V)
  | [], C, _ => by rw [List.nil_append, List.append_nil]
  | c :: V, C, h => by
    have h1 := h c (List.mem_cons_self ..)
    rw [List.cons_append, stl, if_neg (by omega), stl_a (fun d hd => h d (List.mem_cons_of_mem _ hd)), List.append_assoc]
    rfl
theorem cn_a {W : List Nat} : ∀ {V : List Nat}, (∀ c ∈ V, bnC c) → cnN (V ++ W) = cnN W
  | [], _ => rfl
  | c :: V, h => by
    rw [List.cons_append, cnN, cn_a (fun d hd => h d (List.mem_cons_of_mem _ hd)), if_neg (h c (List.mem_cons_self ..)).2]
    rfl
theorem stl_n (l : Nat) : ∀ W C : List Nat, (stl l W C).1.length + (stl l W C).2.length = W.length + C.length
  | [], C => rfl
  | c :: W, C => by
    rw [stl]
    split
    · rfl
    · rw [stl_n l W, List.length_append, List.length_cons, List.length_cons, List.length_nil]
      omega
