/-! Numbers of the specs. -/
theorem lit (n : Nat) : (OfNat.ofNat n : Int32) = nI n := id (Eq.refl _)
theorem inb {k n : Nat} (h : k < n) (hn : n ≤ 2147483648) : (0 ≤ (nI k).toInt ∧ (nI k).toInt < ((n : Nat) : Int)) = True := by
  rw [nI_toInt (by omega)]
  simp only [eq_iff_iff, iff_true]
  omega
theorem nN {k : Nat} (h : k < 2147483648) : (nI k).toInt.toNat = k := by
  rw [nI_toInt (by omega)]
  rfl
theorem nlt {a b : Nat} (ha : a < 2147483648) (hb : b < 2147483648) : (nI a < nI b) = (a < b) := propext (nI_ltI (by omega) (by omega))
theorem nle {a b : Nat} (ha : a < 2147483648) (hb : b < 2147483648) : (nI a ≤ nI b) = (a ≤ b) := propext (nI_leI (by omega) (by omega))
theorem neq {a b : Nat} (ha : a < 2147483648) (hb : b < 2147483648) : (nI a = nI b) = (a = b) := propext (nI_eq (by omega) (by omega))
theorem nad (a b : Nat) : nI a + nI b = nI (a + b) := nI_add a b
theorem nml (a b : Nat) : nI a * nI b = nI (a * b) := pk_mul a b
theorem nsb {a b : Nat} (h : b ≤ a) : nI a - nI b = nI (a - b) := pk_sub h
theorem ndv {a b : Nat} (ha : a < 2147483648) (h0 : 0 < b) (hb : b < 2147483648) : nI a / nI b = nI (a / b) := pk_div (by omega) h0 (by omega)
theorem nrm {a b : Nat} (ha : a < 2147483648) (h0 : 0 < b) (hb : b < 2147483648) : nI a - nI (a / b) * nI b = nI (a % b) := by
  rw [← pk_div (by omega) h0 (by omega)]
  exact pk_rem (by omega) h0 (by omega)
theorem nof {x : Int32} {n : Nat} (h0 : 0 ≤ x) (h : x ≤ nI n) (hn : n < 2147483648) : ∃ j, j ≤ n ∧ x = nI j := nI_of2 (M := nI n) (nI_toInt (by omega)) (by rw [Int32.not_lt]; exact h0) h
/-- a loop by its closed form -/
theorem lpG {ρ σ : Type} {n : Nat} (F : Nat → σ → ρ) (G : Nat → σ) (h : ∀ i, i < n → F i (G i) = F (i + 1) (G (i + 1))) : ∀ a, a ≤ n → F a (G a) = F n (G n) := by
  intro a ha
  induction hk : n - a generalizing a with
  | zero => rw [show a = n by omega]
  | succ k ih => rw [h a (by omega)]; exact ih (a + 1) (by omega) (by omega)
/-- a loop by what holds at each turn -/
theorem lpV {σ : Type} {n : Nat} (F : Nat → σ → Option mm_R) (V : Nat → σ → Prop) (r : mm_R → Prop) (h : ∀ i s, i < n → V i s → ∃ s', V (i + 1) s' ∧ F i s = F (i + 1) s') (he : ∀ s, V n s → ∃ q, F n s = some q ∧ r q) : ∀ a s, a ≤ n → V a s → ∃ q, F a s = some q ∧ r q := by
  intro a s ha hv
  induction hk : n - a generalizing a s with
  | zero => rw [show a = n by omega] at hv ⊢; exact he s hv
  | succ k ih =>
    obtain ⟨s', h1, h2⟩ := h a s (by omega) hv
    rw [h2]
    exact ih (a + 1) s' (by omega) h1 (by omega)
def sm (f : Nat → Nat) : Nat → Nat
  | 0 => 0
  | n + 1 => sm f n + f n
theorem sm_congr {f g : Nat → Nat} : ∀ {n : Nat}, (∀ i, i < n → f i = g i) → sm f n = sm g n
  | 0, _ => rfl
  | n + 1, h => by rw [sm, sm, sm_congr (fun i hi => h i (by omega)), h n (by omega)]
theorem sm_le {f : Nat → Nat} {b : Nat} : ∀ {n : Nat}, (∀ i, i < n → f i ≤ b) → sm f n ≤ b * n
  | 0, _ => Nat.zero_le _
  | n + 1, h => by
    have h1 := sm_le (fun i hi => h i (by omega : i < n + 1)) (n := n)
    have h2 := h n (by omega)
    rw [sm, Nat.mul_succ]
    omega
/-- the first of a .. a + k - 1 -/
def fs (P : Nat → Bool) : Nat → Nat → Option Nat
  | _, 0 => none
  | a, k + 1 => if P a = true then some a else fs P (a + 1) k
theorem fs_some {P : Nat → Bool} : ∀ {k a j : Nat}, fs P a k = some j → a ≤ j ∧ j < a + k ∧ P j = true ∧ ∀ i, a ≤ i → i < j → P i = false
  | 0, a, j, h => by cases h
  | k + 1, a, j, h => by
    unfold fs at h
    by_cases e : P a = true
    · rw [if_pos e] at h
      cases h
      exact ⟨Nat.le_refl _, by omega, e, fun i h1 h2 => by omega⟩
    · rw [if_neg e] at h
      obtain ⟨h1, h2, h3, h4⟩ := fs_some h
      refine ⟨by omega, by omega, h3, fun i hi hj => ?_⟩
      rcases Nat.eq_or_lt_of_le hi with q | q
      · subst q; simpa using e
      · exact h4 i (by omega) hj
theorem fs_none {P : Nat → Bool} : ∀ {k a : Nat}, fs P a k = none → ∀ i, a ≤ i → i < a + k → P i = false
  | 0, a, h, i, h1, h2 => by omega
  | k + 1, a, h, i, h1, h2 => by
    unfold fs at h
    by_cases e : P a = true
    · rw [if_pos e] at h; cases h
    · rw [if_neg e] at h
      rcases Nat.eq_or_lt_of_le h1 with q | q
      · subst q; simpa using e
      · exact fs_none h i (by omega) (by omega)
theorem fs_of {P : Nat → Bool} {j : Nat} : ∀ {k a : Nat}, a ≤ j → j < a + k → P j = true → (∀ i, a ≤ i → i < j → P i = false) → fs P a k = some j
  | 0, a, h1, h2, _, _ => by omega
  | k + 1, a, h1, h2, h3, h4 => by
    unfold fs
    rcases Nat.eq_or_lt_of_le h1 with q | q
    · subst q; rw [if_pos h3]
    · rw [if_neg (by rw [h4 a (Nat.le_refl _) q]; decide)]
      exact fs_of (by omega) (by omega) h3 (fun i hi hj => h4 i (by omega) hj)
theorem fs_nof {P : Nat → Bool} : ∀ {k a : Nat}, (∀ i, a ≤ i → i < a + k → P i = false) → fs P a k = none
  | 0, a, _ => rfl
  | k + 1, a, h => by
    unfold fs
    rw [if_neg (by rw [h a (Nat.le_refl _) (by omega)]; decide)]
    exact fs_nof (fun i hi hj => h i (by omega) (by omega))
theorem fs_congr {P Q : Nat → Bool} : ∀ {k a : Nat}, (∀ i, a ≤ i → i < a + k → P i = Q i) → fs P a k = fs Q a k
  | 0, a, _ => rfl
  | k + 1, a, h => by
    unfold fs
    rw [h a (Nat.le_refl _) (by omega), fs_congr (fun i hi hj => h i (by omega) (by omega))]
/-- a loop that ends at the first hit -/
theorem lpE {ρ : Type} {n : Nat} (F : Nat → ρ) (P : Nat → Bool) (X : Nat → ρ) (h : ∀ i, i < n → F i = if P i = true then X i else F (i + 1)) : ∀ k a, a + k = n → F a = match fs P a k with
    | some j => X j
    | none => F n := by
  intro k
  induction k with
  | zero => intro a ha; rw [show a = n by omega]; rfl
  | succ k ih =>
    intro a ha
    rw [h a (by omega)]
    unfold fs
    by_cases e : P a = true
    · rw [if_pos e, if_pos e]
    · rw [if_neg e, if_neg e]; exact ih (a + 1) (by omega)
def an (P : Nat → Bool) : Nat → Bool
  | 0 => false
  | n + 1 => an P n || P n
theorem an_iff {P : Nat → Bool} : ∀ {n : Nat}, an P n = true ↔ ∃ i, i < n ∧ P i = true
  | 0 => by simp [an]
  | n + 1 => by
    rw [an, Bool.or_eq_true, an_iff]
    constructor
    · rintro (⟨i, h1, h2⟩ | h)
      · exact ⟨i, by omega, h2⟩
      · exact ⟨n, by omega, h⟩
    · rintro ⟨i, h1, h2⟩
      rcases Nat.lt_or_ge i n with q | q
      · exact Or.inl ⟨i, q, h2⟩
      · rw [show i = n by omega] at h2; exact Or.inr h2
theorem an_congr {P Q : Nat → Bool} {n : Nat} (h : ∀ i, i < n → P i = Q i) : an P n = an Q n := by
  induction n with
  | zero => rfl
  | succ n ih => rw [an, an, ih (fun i hi => h i (by omega)), h n (by omega)]
theorem fs_an {P : Nat → Bool} {n : Nat} : (fs P 0 n).isSome = an P n := by
  cases h : fs P 0 n with
  | none =>
    cases h2 : an P n with
    | false => rfl
    | true =>
      obtain ⟨i, h3, h4⟩ := an_iff.mp h2
      rw [fs_none h i (by omega) (by omega)] at h4
      cases h4
  | some j =>
    obtain ⟨-, h1, h2, -⟩ := fs_some h
    exact (an_iff.mpr ⟨j, by omega, h2⟩).symm
def b2 (b : Bool) : Nat := if b = true then 1 else 0
/-- n cells of a row written -/
def wr (I : mm_I) (k i b n : Nat) (v : Nat → Int32) : mm_I := fun k' i' j' => if k' = k ∧ i' = i ∧ b ≤ j' ∧ j' < b + n then v (j' - b) else I k' i' j'
theorem wr_0 (I : mm_I) (k i b : Nat) (v : Nat → Int32) : wr I k i b 0 v = I := by
  funext k' i' j'
  unfold wr
  rw [if_neg]
  omega
theorem wr_s (I : mm_I) (k i b n : Nat) (v : Nat → Int32) : mm_up (wr I k i b n v) k i (b + n) (v n) = wr I k i b (n + 1) v := by
  funext k' i' j'
  unfold mm_up wr
  by_cases h : k' = k ∧ i' = i ∧ j' = b + n
  · rw [if_pos h, if_pos (by omega), show j' - b = n by omega]
  · rw [if_neg h]
    by_cases h2 : k' = k ∧ i' = i ∧ b ≤ j' ∧ j' < b + n
    · rw [if_pos h2, if_pos (by omega)]
    · rw [if_neg h2, if_neg (by omega)]
theorem wr_i {I : mm_I} {k i b n j : Nat} {v : Nat → Int32} (h : b ≤ j) (h2 : j < b + n) : wr I k i b n v k i j = v (j - b) := if_pos ⟨rfl, rfl, h, h2⟩
theorem wr_o {I : mm_I} {k i b n k' i' j : Nat} {v : Nat → Int32} (h : ¬ (k' = k ∧ i' = i ∧ b ≤ j ∧ j < b + n)) : wr I k i b n v k' i' j = I k' i' j := if_neg h
theorem cp_wr (I : mm_I) (k i sp k2 i2 dp n : Nat) : mm_cp I k i sp k2 i2 dp n = wr I k2 i2 dp n (fun j => I k i (sp + j)) := rfl
