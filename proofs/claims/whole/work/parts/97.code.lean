/-! The roster's codes. -/
theorem fo_add {σ : Type} (f : Nat → σ → σ) (a : Nat) (s : σ) : ∀ b, fo f (a + b) s = fo (fun y => f (a + y)) b (fo f a s)
  | 0 => rfl
  | b + 1 => by
    show f (a + b) (fo f (a + b) s) = f (a + b) (fo (fun y => f (a + y)) b (fo f a s))
    rw [fo_add f a s b]
theorem fo_mul {σ : Type} (f : Nat → σ → σ) (M : Nat) (s : σ) : ∀ a, fo f (a * M) s = fo (fun x s => fo (fun y => f (x * M + y)) M s) a s
  | 0 => by rw [Nat.zero_mul]; rfl
  | a + 1 => by
    rw [Nat.add_mul, Nat.one_mul, fo_add, fo_mul f M s a]
    rfl
theorem fo_congr {σ : Type} {f k : Nat → σ → σ} {s : σ} : ∀ {m}, (∀ x, x < m → ∀ t, f x t = k x t) → fo f m s = fo k m s
  | 0, _ => rfl
  | m + 1, h => by rw [fo, fo, fo_congr (fun x hx => h x (by omega)), h m (by omega)]
def dgs (B w : Nat) (p : Nat → Nat) (y i : Nat) : Nat := if w ≤ i ∧ i < 6 then y / B ^ (5 - i) % B else p i
def hsN (gv : Nat → Nat → Nat) (w : Nat) (p : Nat → Nat) (j : Nat) : Nat := sm (fun i => if p i = j + 1 then gv i j else 0) w
def lfT (J : Nat) (nd : Nat → Nat) (gv : Nat → Nat → Nat) (q : Nat → Nat) (s : BS) : BS := tkB s (mtN nd (hsN gv 6 q) J) (dyN nd (hsN gv 6 q) J) q
theorem mt_c {nd h k : Nat → Nat} {J : Nat} (e : ∀ j, j < J → h j = k j) : mtN nd h J = mtN nd k J := sm_congr (fun j hj => by rw [e j hj])
theorem dy_c {nd h k : Nat → Nat} {J : Nat} (e : ∀ j, j < J → h j = k j) : dyN nd h J = dyN nd k J := sm_congr (fun j hj => by rw [e j hj])
theorem dgs_s {B w n x y : Nat} {p : Nat → Nat} (hw : w + n = 5) (hx : x < B) (hy : y < B ^ n) : dgs B (w + 1) (uN p w x) y = dgs B w p (x * B ^ n + y) := by
  funext i
  have hB : 0 < B := by omega
  unfold dgs
  by_cases e : i = w
  · rw [e, if_neg (by omega), if_pos (by omega), uN_s, show 5 - w = n by omega, Nat.mul_comm, Nat.mul_add_div (Nat.pow_pos hB), Nat.div_eq_of_lt hy, Nat.add_zero, Nat.mod_eq_of_lt hx]
  · by_cases e2 : w + 1 ≤ i ∧ i < 6
    · rw [if_pos e2, if_pos (by omega)]
      have e3 : n = (5 - i) + ((n - (5 - i) - 1) + 1) := by omega
      have e4 : x * B ^ n = B ^ (5 - i) * (B * (x * B ^ (n - (5 - i) - 1))) := by
        rw [e3, Nat.pow_add, Nat.pow_succ, show 5 - i + (n - (5 - i) - 1 + 1) - (5 - i) - 1 = n - (5 - i) - 1 by omega]
        rw [Nat.mul_left_comm, Nat.mul_comm (B ^ (n - (5 - i) - 1)) B, Nat.mul_left_comm x B]
      rw [e4, Nat.mul_add_div (Nat.pow_pos hB), Nat.mul_add_mod]
    · rw [if_neg e2, if_neg (by omega), uN_n e]
theorem rf_code {J : Nat} {nd : Nat → Nat} {gv : Nat → Nat → Nat} : ∀ n w h p s, w + n = 6 → (∀ j, j < J → h j = hsN gv w p j) → rf J nd gv n w h p s = fo (fun y => lfT J nd gv (dgs (J + 1) w p y)) ((J + 1) ^ n) s := by
  intro n
  induction n with
  | zero =>
    intro w h p s hw e
    have hw' : w = 6 := hw
    subst hw'
    have q : dgs (J + 1) 6 p 0 = p := by
      funext i
      unfold dgs
      rw [if_neg (by omega)]
    show tkB s (mtN nd h J) (dyN nd h J) p = lfT J nd gv (dgs (J + 1) 6 p 0) s
    rw [q]
    unfold lfT
    rw [mt_c e, dy_c e]
  | succ n ih =>
    intro w h p s hw e
    rw [Nat.pow_succ, Nat.mul_comm, fo_mul]
    show fo _ (J + 1) s = _
    refine fo_congr (fun x hx t => ?_)
    show rf J nd gv n (w + 1) (chN gv w h x) (uN p w x) t = _
    rw [ih (w + 1) _ _ _ (by omega) (fun j hj => ?_)]
    · refine fo_congr (fun y hy t => ?_)
      rw [dgs_s (by omega) hx hy]
    · unfold hsN
      rw [sm, uN_s]
      have e1 : sm (fun i => if uN p w x i = j + 1 then gv i j else 0) w = hsN gv w p j := sm_congr (fun i hi => by rw [uN_n (by omega)])
      rw [e1, ← e j hj]
      unfold chN
      by_cases z : x = 0
      · rw [if_pos z, if_neg (by omega)]; rfl
      · rw [if_neg z]
        by_cases z2 : j = x - 1
        · rw [z2, uN_s, if_pos (by omega)]
        · rw [uN_n z2, if_neg (by omega)]; rfl
