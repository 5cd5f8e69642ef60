/-! Whole numbers below 0, too. -/
def zI (a : Int) : Int32 := Int32.ofInt a
theorem zT {a : Int} (h1 : -2147483648 ≤ a) (h2 : a < 2147483648) : (zI a).toInt = a := by
  unfold zI
  rw [Int32.toInt_ofInt, show Int32.size = 4294967296 from rfl]
  exact Int.bmod_eq_of_le (by omega) (by omega)
theorem zad (a b : Int) : zI a + zI b = zI (a + b) := (Int32.ofInt_add a b).symm
theorem zn (k : Nat) (h : k < 2147483648) : nI k = zI k := Int32.toInt_inj.mp (by rw [zT (by omega) (by omega), nI_toInt (by omega)])
theorem zneg (k : Nat) (h : k < 1073741824) : -nI k = zI (-(k : Int)) := Int32.toInt_inj.mp (by rw [zT (by omega) (by omega), ngI h])
theorem zlt {a b : Int} (h1 : -2147483648 ≤ a) (h2 : a < 2147483648) (h3 : -2147483648 ≤ b) (h4 : b < 2147483648) : (zI a < zI b) = (a < b) := propext (by rw [Int32.lt_iff_toInt_lt, zT h1 h2, zT h3 h4])
theorem zeq {a b : Int} (h1 : -2147483648 ≤ a) (h2 : a < 2147483648) (h3 : -2147483648 ≤ b) (h4 : b < 2147483648) : (zI a = zI b) = (a = b) := propext ⟨fun q => by rw [← zT h1 h2, ← zT h3 h4, q], fun q => by rw [q]⟩
theorem zsb {a b : Nat} (ha : a < 1073741824) (hb : b < 1073741824) : nI a - nI b = zI ((a : Int) - b) := by
  rw [zn a (by omega), zn b (by omega)]
  exact (Int32.ofInt_sub _ _).symm
theorem foc_n {O : Nat → Nat → Bool} {W : Nat → Nat → Int} {P : Nat → Nat → Nat} {c : Nat} (h0 : ∀ i, O i 0 = true ∧ P i 0 = 0) (n i : Nat) (w : Int) (p : Nat) (q : Nat → Nat) (s : BT) (hp : p ≤ c) : ∀ m, fo (fun k s => if O i k = true then cf O W P c n (i + 1) (w + W i k) (p + P i k) (uN q i k) s else s) (m + 1) s ≠ none := by
  intro m
  induction m with
  | zero =>
    show (if O i 0 = true then _ else _) ≠ none
    rw [if_pos (h0 i).1, (h0 i).2]
    exact cf_n h0 _ _ _ _ _ _ hp
  | succ m im =>
    rw [fo]
    split
    · exact leT_n (cf_le _ _ _ _ _ _) im
    · exact im
/-- what the class holds for the choice -/
def CMc (m : Nat) (O : Nat → Nat → Bool) (W : Nat → Nat → Int) (P : Nat → Nat → Nat) (c : Nat) (bo : Nat → Int) (I : mm_I) : Prop := I 0 0 6 = nI m ∧ I 0 0 7 = nI c ∧ (∀ i k, i < m → k < 5 → I 200 0 (i * 5 + k) = nI (b2 (O i k))) ∧ (∀ i k, i < m → k < 5 → O i k = true → I 20 0 (i * 5 + k) = zI (W i k) ∧ I 21 0 (i * 5 + k) = nI (P i k)) ∧ ∀ i, i ≤ m → I 22 0 i = zI (hI bo (m - i) i)
def BMt (m : Nat) : BT → mm_I → Prop
  | none, I => I 0 0 8 = zI (-1) ∧ I 0 0 9 = nI 0
  | some (w, p, q), I => I 0 0 8 = zI w ∧ I 0 0 9 = nI p ∧ -100000000 ≤ w ∧ w ≤ 100000000 ∧ p ≤ 999999 ∧ ∀ i, i < m → I 24 0 i = nI (q i)
theorem CMc_e {m : Nat} {O : Nat → Nat → Bool} {W : Nat → Nat → Int} {P : Nat → Nat → Nat} {c : Nat} {bo : Nat → Int} {I I' : mm_I} (h : CMc m O W P c bo I) (e : eqo [0, 23, 24] I I') (e6 : I' 0 0 6 = I 0 0 6) (e7 : I' 0 0 7 = I 0 0 7) : CMc m O W P c bo I' := by
  unfold CMc
  rw [e6, e7, e 200 (by decide), e 20 (by decide), e 21 (by decide), e 22 (by decide)]
  exact h
theorem BMt_e {m : Nat} {s : BT} {I I' : mm_I} (h : BMt m s I) (e : eqo [23] I I') : BMt m s I' := by
  cases s with
  | none => show I' 0 0 8 = zI (-1) ∧ I' 0 0 9 = nI 0; rw [e 0 (by decide)]; exact h
  | some v => obtain ⟨w, p, q⟩ := v; show I' 0 0 8 = zI w ∧ I' 0 0 9 = nI p ∧ -100000000 ≤ w ∧ w ≤ 100000000 ∧ p ≤ 999999 ∧ ∀ i, i < m → I' 24 0 i = nI (q i); rw [e 0 (by decide), e 24 (by decide)]; exact h
