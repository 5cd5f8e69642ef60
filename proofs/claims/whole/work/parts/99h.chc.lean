/-! The choice's codes, base 5, m digits. -/
def dg2 (m w : Nat) (p : Nat → Nat) (y i : Nat) : Nat := if w ≤ i ∧ i < m then y / 5 ^ (m - 1 - i) % 5 else p i
def sI (f : Nat → Int) : Nat → Int
  | 0 => 0
  | n + 1 => sI f n + f n
theorem sI_congr {f k : Nat → Int} : ∀ {n : Nat}, (∀ i, i < n → f i = k i) → sI f n = sI k n
  | 0, _ => rfl
  | n + 1, h => by rw [sI, sI, sI_congr (fun i hi => h i (by omega)), h n (by omega)]
def okQ (O : Nat → Nat → Bool) (m : Nat) (q : Nat → Nat) : Bool := !an (fun i => !O i (q i)) m
def lf2 (O : Nat → Nat → Bool) (W : Nat → Nat → Int) (P : Nat → Nat → Nat) (c m : Nat) (q : Nat → Nat) (s : BT) : BT := if okQ O m q = true then tk2 c s (sI (fun i => W i (q i)) m) (sm (fun i => P i (q i)) m) q else s
theorem okQ_iff {O : Nat → Nat → Bool} {m : Nat} {q : Nat → Nat} : okQ O m q = true ↔ ∀ i, i < m → O i (q i) = true := by
  unfold okQ
  rw [Bool.not_eq_true', ← Bool.not_eq_true, an_iff]
  constructor
  · intro h i hi
    cases z : O i (q i) with
    | true => rfl
    | false => exact absurd ⟨i, hi, by rw [z]; rfl⟩ h
  · rintro h ⟨i, hi, z⟩
    rw [h i hi] at z
    cases z
theorem dg2_s {m w n x y : Nat} {p : Nat → Nat} (hw : w + n + 1 = m) (hx : x < 5) (hy : y < 5 ^ n) : dg2 m (w + 1) (uN p w x) y = dg2 m w p (x * 5 ^ n + y) := by
  funext i
  unfold dg2
  by_cases e : i = w
  · rw [e, if_neg (by omega), if_pos (by omega), uN_s, show m - 1 - w = n by omega, Nat.mul_comm, Nat.mul_add_div (Nat.pow_pos (by decide)), Nat.div_eq_of_lt hy, Nat.add_zero, Nat.mod_eq_of_lt hx]
  · by_cases e2 : w + 1 ≤ i ∧ i < m
    · rw [if_pos e2, if_pos (by omega)]
      have e3 : n = (m - 1 - i) + ((n - (m - 1 - i) - 1) + 1) := by omega
      have e4 : x * 5 ^ n = 5 ^ (m - 1 - i) * (5 * (x * 5 ^ (n - (m - 1 - i) - 1))) := by
        rw [e3, Nat.pow_add, Nat.pow_succ, show m - 1 - i + (n - (m - 1 - i) - 1 + 1) - (m - 1 - i) - 1 = n - (m - 1 - i) - 1 by omega]
        rw [Nat.mul_left_comm, Nat.mul_comm (5 ^ (n - (m - 1 - i) - 1)) 5, Nat.mul_left_comm x 5]
      rw [e4, Nat.mul_add_div (Nat.pow_pos (by decide)), Nat.mul_add_mod]
    · rw [if_neg e2, if_neg (by omega), uN_n e]
theorem cf_code {O : Nat → Nat → Bool} {W : Nat → Nat → Int} {P : Nat → Nat → Nat} {c m : Nat} : ∀ n i w p q s, i + n = m → w = sI (fun k => W k (q k)) i → p = sm (fun k => P k (q k)) i → (∀ k, k < i → O k (q k) = true) → cf O W P c n i w p q s = fo (fun y => lf2 O W P c m (dg2 m i q y)) (5 ^ n) s := by
  intro n
  induction n with
  | zero =>
    intro i w p q s hi hw hp hO
    have hi' : i = m := hi
    subst hi'
    have z : dg2 i i q 0 = q := by
      funext k
      unfold dg2
      rw [if_neg (by omega)]
    show tk2 c s w p q = lf2 O W P c i (dg2 i i q 0) s
    rw [z]
    unfold lf2
    rw [if_pos (okQ_iff.mpr hO), ← hw, ← hp]
  | succ n ih =>
    intro i w p q s hi hw hp hO
    rw [Nat.pow_succ, Nat.mul_comm, fo_mul]
    show fo _ 5 s = _
    refine fo_congr (fun x hx t => ?_)
    by_cases z : O i x = true
    · rw [if_pos z, ih (i + 1) _ _ _ _ (by omega) ?_ ?_ ?_]
      · refine fo_congr (fun y hy t => ?_)
        rw [dg2_s (by omega) hx hy]
      · rw [sI, uN_s, hw]
        congr 1
        exact sI_congr (fun k hk => by rw [uN_n (by omega)])
      · rw [sm, uN_s, hp]
        congr 1
        exact sm_congr (fun k hk => by rw [uN_n (by omega)])
      · intro k hk
        by_cases e : k = i
        · rw [e, uN_s]; exact z
        · rw [uN_n e]; exact hO k (by omega)
    · rw [if_neg z]
      refine (fo_id _ (fun y hy => ?_)).symm
      unfold lf2
      rw [if_neg]
      intro h
      have := okQ_iff.mp h i (by omega)
      rw [← dg2_s (w := i) (n := n) (by omega) hx hy] at this
      unfold dg2 at this
      rw [if_neg (by omega), uN_s] at this
      exact z this
