/-! Sums from behind. -/
theorem hI_sI (f : Nat → Int) : ∀ n i, sI f i + hI f n i = sI f (i + n)
  | 0, i => Int.add_zero _
  | n + 1, i => by
    have h := hI_sI f n (i + 1)
    rw [sI] at h
    rw [hI, show i + (n + 1) = i + 1 + n by omega, ← h]
    omega
def hN (f : Nat → Nat) : Nat → Nat → Nat
  | 0, _ => 0
  | n + 1, i => f i + hN f n (i + 1)
theorem hN_sm (f : Nat → Nat) : ∀ n i, sm f i + hN f n i = sm f (i + n)
  | 0, i => Nat.add_zero _
  | n + 1, i => by
    have h := hN_sm f n (i + 1)
    rw [sm] at h
    rw [hN, show i + (n + 1) = i + 1 + n by omega, ← h]
    omega
