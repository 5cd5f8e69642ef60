/-! The choice, pure. O offered, W worth, P price, c coins; a best is none or (worth, price, digits). -/
abbrev BT : Type := Option (Int × Nat × (Nat → Nat))
def be2 (w : Int) (p : Nat) : BT → Bool
  | none => true
  | some (w', p', _) => decide (w' < w) || (decide (w = w') && decide (p < p'))
def tk2 (c : Nat) (s : BT) (w : Int) (p : Nat) (q : Nat → Nat) : BT := if (decide (p ≤ c) && be2 w p s) = true then some (w, p, q) else s
def cf (O : Nat → Nat → Bool) (W : Nat → Nat → Int) (P : Nat → Nat → Nat) (c : Nat) : Nat → Nat → Int → Nat → (Nat → Nat) → BT → BT
  | 0, _, w, p, q, s => tk2 c s w p q
  | n + 1, i, w, p, q, s => fo (fun k s => if O i k = true then cf O W P c n (i + 1) (w + W i k) (p + P i k) (uN q i k) s else s) 5 s
def D2 (O : Nat → Nat → Bool) (W : Nat → Nat → Int) (P : Nat → Nat → Nat) (c : Nat) : Nat → Nat → Int → Nat → BT → Prop
  | 0, _, w, p, s => p ≤ c → be2 w p s = false
  | n + 1, i, w, p, s => ∀ k, k < 5 → O i k = true → D2 O W P c n (i + 1) (w + W i k) (p + P i k) s
theorem D2_cf {O : Nat → Nat → Bool} {W : Nat → Nat → Int} {P : Nat → Nat → Nat} {c : Nat} : ∀ n i w p q s, D2 O W P c n i w p s → cf O W P c n i w p q s = s := by
  intro n
  induction n with
  | zero =>
    intro i w p q s h
    unfold cf tk2
    by_cases z : p ≤ c
    · rw [h z, Bool.and_false]; rfl
    · rw [decide_eq_false z, Bool.false_and]; rfl
  | succ n ih =>
    intro i w p q s h
    refine fo_id _ (fun k hk => ?_)
    by_cases z : O i k = true
    · rw [if_pos z]; exact ih _ _ _ _ _ (h k hk z)
    · rw [if_neg z]
theorem D2_p {O : Nat → Nat → Bool} {W : Nat → Nat → Int} {P : Nat → Nat → Nat} {c : Nat} {s : BT} : ∀ n i w p, c < p → D2 O W P c n i w p s := by
  intro n
  induction n with
  | zero => intro i w p h h2; omega
  | succ n ih => intro i w p h k hk z; exact ih _ _ _ (by omega)
def hI (bo : Nat → Int) : Nat → Nat → Int
  | 0, _ => 0
  | n + 1, i => bo i + hI bo n (i + 1)
theorem D2_bd {O : Nat → Nat → Bool} {W : Nat → Nat → Int} {P : Nat → Nat → Nat} {c : Nat} {bo : Nat → Int} (hb : ∀ i k, k < 5 → O i k = true → W i k ≤ bo i) {w' : Int} {p' : Nat} {q' : Nat → Nat} {H : Int} {Q : Nat} (hH : H < w' ∨ (H = w' ∧ p' ≤ Q)) : ∀ n i w p, w + hI bo n i ≤ H → Q ≤ p → D2 O W P c n i w p (some (w', p', q')) := by
  intro n
  induction n with
  | zero =>
    intro i w p h h2 _
    have h3 : w + 0 ≤ H := h
    simp only [be2, Bool.or_eq_false_iff, Bool.and_eq_false_iff, decide_eq_false_iff_not]
    omega
  | succ n ih =>
    intro i w p h h2 k hk z
    have h3 : w + (bo i + hI bo n (i + 1)) ≤ H := h
    have := hb i k hk z
    exact ih _ _ _ (by omega) (by omega)
def leT (s t : BT) : Prop := ∀ w p, be2 w p s = false → be2 w p t = false
theorem leT_tr {s t u : BT} (h : leT s t) (h2 : leT t u) : leT s u := fun m d q => h2 m d (h m d q)
theorem leT_tk (c : Nat) (s : BT) (w : Int) (p : Nat) (q : Nat → Nat) : leT s (tk2 c s w p q) := by
  intro w1 p1 h
  unfold tk2
  split
  · rename_i z
    cases s with
    | none => cases h
    | some v =>
      obtain ⟨w', p', q'⟩ := v
      simp only [be2, Bool.or_eq_false_iff, Bool.and_eq_false_iff, decide_eq_false_iff_not, Bool.or_eq_true, Bool.and_eq_true, decide_eq_true_eq] at h z ⊢
      omega
  · exact h
theorem foT_le {f : Nat → BT → BT} (h : ∀ x s, leT s (f x s)) : ∀ m s, leT s (fo f m s)
  | 0, s => fun _ _ q => q
  | m + 1, s => leT_tr (foT_le h m s) (h m _)
theorem cf_le {O : Nat → Nat → Bool} {W : Nat → Nat → Int} {P : Nat → Nat → Nat} {c : Nat} : ∀ n i w p q s, leT s (cf O W P c n i w p q s) := by
  intro n
  induction n with
  | zero => intro i w p q s; exact leT_tk c s w p q
  | succ n ih =>
    intro i w p q s
    refine foT_le (fun k s => ?_) 5 s
    by_cases z : O i k = true
    · rw [if_pos z]; exact ih _ _ _ _ _
    · rw [if_neg z]; exact fun _ _ q => q
theorem leT_n {s t : BT} (h : leT s t) (hs : s ≠ none) : t ≠ none := by
  intro e
  cases s with
  | none => exact hs rfl
  | some v =>
    obtain ⟨w', p', q'⟩ := v
    have := h w' p' (by simp [be2])
    rw [e] at this
    cases this
/-- the leaf that does nothing is always there -/
theorem cf_n {O : Nat → Nat → Bool} {W : Nat → Nat → Int} {P : Nat → Nat → Nat} {c : Nat} (h0 : ∀ i, O i 0 = true ∧ P i 0 = 0) : ∀ n i w p q s, p ≤ c → cf O W P c n i w p q s ≠ none := by
  intro n
  induction n with
  | zero =>
    intro i w p q s hp
    unfold cf tk2
    cases s with
    | none => rw [decide_eq_true hp]; exact fun z => by cases z
    | some v => split <;> exact fun z => by cases z
  | succ n ih =>
    intro i w p q s hp
    unfold cf
    have e : ∀ m, fo (fun k s => if O i k = true then cf O W P c n (i + 1) (w + W i k) (p + P i k) (uN q i k) s else s) (m + 1) s ≠ none := by
      intro m
      induction m with
      | zero =>
        show (if O i 0 = true then _ else _) ≠ none
        rw [if_pos (h0 i).1, (h0 i).2]
        exact ih _ _ _ _ _ hp
      | succ m im =>
        rw [fo]
        split
        · exact leT_n (cf_le _ _ _ _ _ _) im
        · exact im
    exact e 4
