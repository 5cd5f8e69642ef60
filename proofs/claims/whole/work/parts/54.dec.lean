/-! Numbers decided by omega; reads behind writes; frames. -/
theorem dlT {a b : Nat} (h : a < b) : (a < b) = True := eq_true h
theorem dlF {a b : Nat} (h : b ≤ a) : (a < b) = False := eq_false (by omega)
theorem deT {a b : Nat} (h : a ≤ b) : (a ≤ b) = True := eq_true h
theorem deF {a b : Nat} (h : b < a) : (a ≤ b) = False := eq_false (by omega)
theorem dqT {a b : Nat} (h : a = b) : (a = b) = True := eq_true h
theorem dqF {a b : Nat} (h : a ≠ b) : (a = b) = False := eq_false h
theorem up_T {I : mm_I} {k i j i' j' : Nat} {x : Int32} (h : i' = i ∧ j' = j) : mm_up I k i j x k i' j' = x := by rw [h.1, h.2, up_s]
theorem up_F {I : mm_I} {k i j k' i' j' : Nat} {x : Int32} (h : ¬ (k' = k ∧ i' = i ∧ j' = j)) : mm_up I k i j x k' i' j' = I k' i' j' := up_n h
theorem wr_T {I : mm_I} {k i b n i' j : Nat} {v : Nat → Int32} (h : i' = i ∧ b ≤ j ∧ j < b + n) : wr I k i b n v k i' j = v (j - b) := if_pos ⟨rfl, h.1, h.2.1, h.2.2⟩
theorem wr_F {I : mm_I} {k i b n k' i' j : Nat} {v : Nat → Int32} (h : ¬ (k' = k ∧ i' = i ∧ b ≤ j ∧ j < b + n)) : wr I k i b n v k' i' j = I k' i' j := if_neg h
theorem a11 : nI 1 &&& nI 1 = nI 1 := rfl
theorem a01 : nI 0 &&& nI 1 = nI 0 := rfl
theorem aB2 (b : Bool) : nI (b2 b) &&& nI 1 = nI (b2 b) := by cases b <;> rfl
theorem bitA {c : Prop} [Decidable c] : (if c then (nI 1) else nI 0) &&& nI 1 = if c then nI 1 else nI 0 := by by_cases h : c <;> simp only [h, if_true, if_false] <;> rfl
/-- a loop that may end early -/
theorem lpX {σ ρ : Type} {n : Nat} (F : Nat → σ → ρ) (V : Nat → σ → Prop) (P : ρ → Prop) (h : ∀ i s, i < n → V i s → P (F i s) ∨ ∃ s', V (i + 1) s' ∧ F i s = F (i + 1) s') (he : ∀ s, V n s → P (F n s)) : ∀ a s, a ≤ n → V a s → P (F a s) := by
  intro a s ha hv
  induction hk : n - a generalizing a s with
  | zero => rw [show a = n by omega] at hv ⊢; exact he s hv
  | succ k ih =>
    rcases h a s (by omega) hv with q | ⟨s', h1, h2⟩
    · exact q
    · rw [h2]
      exact ih (a + 1) s' (by omega) h1 (by omega)
theorem eqo_wr {ks : List Nat} {I I' : mm_I} {k i b n : Nat} {v : Nat → Int32} (h : eqo ks I I') (hk : k ∈ ks) : eqo ks I (wr I' k i b n v) := fun k' h' => by
  rw [← h k' h']
  funext i' j'
  exact wr_F (fun z => h' (z.1 ▸ hk))
/-- cells outside P are as they were -/
def fr (P : Nat → Nat → Prop) (I I' : mm_I) : Prop := ∀ k i, ¬ P k i → I' k i = I k i
theorem fr_rf (P : Nat → Nat → Prop) (I : mm_I) : fr P I I := fun _ _ _ => rfl
theorem fr_tr {P : Nat → Nat → Prop} {I I' I'' : mm_I} (h : fr P I I') (h2 : fr P I' I'') : fr P I I'' := fun k i hk => (h2 k i hk).trans (h k i hk)
theorem fr_mono {P Q : Nat → Nat → Prop} {I I' : mm_I} (h : fr P I I') (hs : ∀ k i, P k i → Q k i) : fr Q I I' := fun k i hk => h k i (fun z => hk (hs k i z))
theorem fr_up {P : Nat → Nat → Prop} {I I' : mm_I} {k i j : Nat} {x : Int32} (h : fr P I I') (hk : P k i) : fr P I (mm_up I' k i j x) := fun k' i' h' => by
  rw [← h k' i' h']
  funext j'
  exact up_n (fun z => h' (z.1 ▸ z.2.1 ▸ hk))
theorem fr_wr {P : Nat → Nat → Prop} {I I' : mm_I} {k i b n : Nat} {v : Nat → Int32} (h : fr P I I') (hk : P k i) : fr P I (wr I' k i b n v) := fun k' i' h' => by
  rw [← h k' i' h']
  funext j'
  exact wr_F (fun z => h' (z.1 ▸ z.2.1 ▸ hk))
theorem fr_eqo {P : Nat → Nat → Prop} {ks : List Nat} {I I' : mm_I} (h : eqo ks I I') (hp : ∀ k ∈ ks, ∀ i, P k i) : fr P I I' := fun k i hk => by
  rw [h k (fun z => hk (hp k z i))]
/-- a cell of hills h -/
def hc (h k i : Nat) : Prop := (k = 3 ∧ i = h) ∨ (k = 7 ∧ 7 * h ≤ i ∧ i < 7 * h + 7) ∨ (k = 8 ∧ 16 * h ≤ i ∧ i < 16 * h + 16) ∨ (k = 28 ∧ i = h) ∨ (k = 37 ∧ 7 * h ≤ i ∧ i < 7 * h + 7)
theorem StC_c {I I' : mm_I} {r : Nat} {f : Nat → Nat} (h : StC I r f) (e : I' 8 r = I 8 r) : StC I' r f := by unfold StC; rw [e]; exact h
/-- the hills' cells and the texts are as they were -/
theorem RepC_fr {h : Nat} {A : mm_A} {I I' : mm_I} (hC : RepC h A I) (g : Good A) (e : ∀ k i, hc h k i ∨ k = 9 ∨ k = 38 → I' k i = I k i) : RepC h A I' := by
  obtain ⟨h1, h2, h3, h4, h5, h6⟩ := hC
  have e3 : I' 3 h = I 3 h := e 3 h (Or.inl (Or.inl ⟨rfl, rfl⟩))
  have e28 : I' 28 h = I 28 h := e 28 h (Or.inl (Or.inr (Or.inr (Or.inr (Or.inl ⟨rfl, rfl⟩)))))
  have e7 : ∀ t, t < 7 → I' 7 (7 * h + t) = I 7 (7 * h + t) := fun t ht => e 7 _ (Or.inl (Or.inr (Or.inl ⟨rfl, by omega, by omega⟩)))
  have e37 : ∀ t, t < 7 → I' 37 (7 * h + t) = I 37 (7 * h + t) := fun t ht => e 37 _ (Or.inl (Or.inr (Or.inr (Or.inr (Or.inr ⟨rfl, by omega, by omega⟩)))))
  have e8 : ∀ p, p < 16 → I' 8 (16 * h + p) = I 8 (16 * h + p) := fun t ht => e 8 _ (Or.inl (Or.inr (Or.inr (Or.inl ⟨rfl, by omega, by omega⟩))))
  have e9 : ∀ r, I' 9 r = I 9 r := fun r => e 9 r (Or.inr (Or.inl rfl))
  have e38 : ∀ r, I' 38 r = I 38 r := fun r => e 38 r (Or.inr (Or.inr rfl))
  have hn := g.1.1
  refine ⟨by rw [e3]; exact h1, fun t ht => by rw [e7 t ht]; exact h2 t ht, fun p hp => StC_c (h3 p hp) (e8 p (by omega)), fun y hy => by rw [e28]; exact h4 y hy, fun r hr => ?_, fun t r c ht hr hcc => by rw [e37 t ht]; exact h6 t r c ht hr hcc⟩
  rw [e9, e38]
  exact h5 r hr
theorem RepC_o {h : Nat} {A : mm_A} {I I' : mm_I} {ks : List Nat} (hC : RepC h A I) (g : Good A) (e : eqo ks I I') (hd : ∀ k ∈ [3, 7, 8, 9, 28, 37, 38], k ∉ ks) : RepC h A I' := RepC_fr hC g (fun k i q => by
  rw [e k]
  refine hd k ?_
  unfold hc at q
  rcases q with (⟨q, -⟩ | ⟨q, -⟩ | ⟨q, -⟩ | ⟨q, -⟩ | ⟨q, -⟩) | q | q <;> subst q <;> decide)
theorem RepR_o {a : Nat} {A : mm_A} {I I' : mm_I} (hR : RepR a A I) (e : I' 47 a = I 47 a) : RepR a A I' := by unfold RepR; rw [e]; exact hR
theorem Fix_o {I I' : mm_I} (F : Fix I) (e : ∀ r j, (j = 1 ∨ j = 2) → I' 7 r j = I 7 r j) : Fix I' := fun r hr => by rw [e r 1 (Or.inl rfl), e r 2 (Or.inr rfl)]; exact F r hr
/-! numbers below 0 -/
theorem ngI {m : Nat} (h : m < 1073741824) : (-nI m).toInt = -(m : Int) := by
  have e : -nI m = nI 0 - nI m := by rw [nI_0, Int32.zero_sub]
  rw [e, pk_sub_toInt (by omega) (by omega)]
  omega
theorem ngE {p m : Nat} (hp : p < 2147483648) (h0 : 0 < m) (h : m < 1073741824) : (nI p = -nI m) = False := eq_false (fun q => by
  have := congrArg Int32.toInt q
  rw [nI_toInt (by omega), ngI h] at this
  omega)
theorem ngE' {p m : Nat} (hp : p < 2147483648) (h0 : 0 < m) (h : m < 1073741824) : (-nI m = nI p) = False := eq_false (fun q => by
  have := congrArg Int32.toInt q
  rw [nI_toInt (by omega), ngI h] at this
  omega)
theorem ngL {p m : Nat} (hp : p < 2147483648) (h0 : 0 < m) (h : m < 1073741824) : (nI p < -nI m) = False := eq_false (fun q => by
  have := Int32.lt_iff_toInt_lt.mp q
  rw [nI_toInt (by omega), ngI h] at this
  omega)
theorem ngL' {p m : Nat} (hp : p < 2147483648) (h0 : 0 < m) (h : m < 1073741824) : (-nI m < nI p) = True := eq_true (by
  rw [Int32.lt_iff_toInt_lt, nI_toInt (by omega), ngI h]
  omega)
theorem ngQ {p m : Nat} (hp : p < 2147483648) (h0 : 0 < m) (h : m < 1073741824) : (nI p ≤ -nI m) = False := eq_false (fun q => by
  have := Int32.le_iff_toInt_le.mp q
  rw [nI_toInt (by omega), ngI h] at this
  omega)
theorem ngQ' {p m : Nat} (hp : p < 2147483648) (h0 : 0 < m) (h : m < 1073741824) : (-nI m ≤ nI p) = True := eq_true (by
  rw [Int32.le_iff_toInt_le, nI_toInt (by omega), ngI h]
  omega)
