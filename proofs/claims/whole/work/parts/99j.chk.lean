/-! Choice.pick. -/
theorem hI_b {bo : Nat → Int} (h : ∀ i, 0 ≤ bo i ∧ bo i ≤ 9999) : ∀ n i, 0 ≤ hI bo n i ∧ hI bo n i ≤ 9999 * n := by
  intro n
  induction n with
  | zero => intro i; exact ⟨Int.le_refl _, by show (0 : Int) ≤ 9999 * ((0 : Nat) : Int); omega⟩
  | succ n ih =>
    intro i
    have h1 := h i
    have h2 := ih (i + 1)
    show 0 ≤ bo i + hI bo n (i + 1) ∧ bo i + hI bo n (i + 1) ≤ 9999 * ((n + 1 : Nat) : Int)
    omega
theorem s_chPick (d m c : Nat) (O : Nat → Nat → Bool) (W : Nat → Nat → Int) (P : Nat → Nat → Nat) (bo : Nat → Int) (hm : m ≤ 6) (hc : c ≤ 999999) (h0 : ∀ i, O i 0 = true ∧ P i 0 = 0) (hW0 : ∀ i, W i 0 = 0) (hW : ∀ i k, -9999 ≤ W i k ∧ W i k ≤ 9999) (hP : ∀ i k, P i k ≤ 99999) (hb : ∀ i k, k < 5 → O i k = true → W i k ≤ bo i) (hbo : ∀ i, 0 ≤ bo i ∧ bo i ≤ 9999) : ∀ n i (w : Int) (p : Nat) (q : Nat → Nat) (s : BT) (I : mm_I), i + n = m → CMc m O W P c bo I → BMt m s I → -9999 * (i : Int) ≤ w → w ≤ 9999 * (i : Int) → p ≤ 99999 * i → (s = none → 0 ≤ w) → (∀ k, k < i → I 23 0 k = nI (q k)) → ∃ I', Sn (d + 1 + n) q_Choice_pick [.inr (0, 0), .inl (nI i), .inl (zI w), .inl (nI p)] I = some (none, (sh0, I')) ∧ eqo [0, 23, 24] I I' ∧ I' 0 0 6 = I 0 0 6 ∧ I' 0 0 7 = I 0 0 7 ∧ (∀ k, k < i → I' 23 0 k = I 23 0 k) ∧ BMt m (cf O W P c n i w p q s) I' := by
  intro n
  induction n with
  | zero =>
    intro i w p q s I hi hC hB hw1 hw2 hp hs hq
    have hi' : i = m := hi
    subst hi'
    obtain ⟨r1, r2, r3, r4, r5⟩ := hC
    have l22 := r5 i (Nat.le_refl _)
    rw [show i - i = 0 by omega, show hI bo 0 i = 0 from rfl] at l22
    sorry
  | succ n ih =>
    intro i w p q s I hi hC hB hw1 hw2 hp hs hq
    obtain ⟨r1, r2, r3, r4, r5⟩ := hC
    have l22 := r5 i (by omega)
    rw [show m - i = n + 1 by omega] at l22
    have hh := hI_b hbo (n + 1) i
    sorry
