/-! Pure facts for the methods' specs. -/
theorem ct_s {ρ : Type} (K : mm_K ρ) (ls : mm_L) (r : List mm_V) (v : mm_V) (μ : mm_M) : mm_cont K ls r (some v, μ) = K ls (v :: r) μ := rfl
theorem ct_n {ρ : Type} (K : mm_K ρ) (ls : mm_L) (r : List mm_V) (μ : mm_M) : mm_cont K ls r (none, μ) = K ls r μ := rfl
theorem bd_s {α β : Type} (a : α) (f : α → Option β) : (some a).bind f = f a := rfl
theorem b11 : (1 : Int32) &&& 1 = 1 := rfl
theorem b01 : (0 : Int32) &&& 1 = 0 := rfl
theorem bite {c : Prop} [Decidable c] : (if c then (1 : Int32) else 0) &&& 1 = if c then 1 else 0 := by by_cases h : c <;> simp [h]
theorem up_s (I : mm_I) (k i j : Nat) (x : Int32) : mm_up I k i j x k i j = x := by simp [mm_up]
theorem up_n {I : mm_I} {k i j k' i' j' : Nat} {x : Int32} (h : ¬ (k' = k ∧ i' = i ∧ j' = j)) : mm_up I k i j x k' i' j' = I k' i' j' := by unfold mm_up; rw [if_neg h]
theorem up_k {I : mm_I} {k i j k' i' j' : Nat} {x : Int32} (h : k' ≠ k) : mm_up I k i j x k' i' j' = I k' i' j' := up_n (fun z => h z.1)
/-- only cells of the kinds ks have changed -/
def eqo (ks : List Nat) (I I' : mm_I) : Prop := ∀ k, k ∉ ks → I' k = I k
theorem eqo_rf (ks : List Nat) (I : mm_I) : eqo ks I I := fun _ _ => rfl
theorem eqo_tr {ks : List Nat} {I I' I'' : mm_I} (h : eqo ks I I') (h2 : eqo ks I' I'') : eqo ks I I'' := fun k hk => (h2 k hk).trans (h k hk)
theorem eqo_mono {ks ks' : List Nat} {I I' : mm_I} (h : eqo ks I I') (hs : ∀ k ∈ ks, k ∈ ks') : eqo ks' I I' := fun k hk => h k (fun z => hk (hs k z))
theorem eqo_up {ks : List Nat} {I I' : mm_I} {k i j : Nat} {x : Int32} (h : eqo ks I I') (hk : k ∈ ks) : eqo ks I (mm_up I' k i j x) := fun k' h' => by
  rw [← h k' h']
  funext i' j'
  exact up_k (fun z => h' (z ▸ hk))
theorem s_H_within (d : Nat) (x0 x1 x2 : Int32) (I : mm_I) : Sn (d + 1) q_H_within [.inl x0, .inl x1, .inl x2] I = some (some (.inl (if x1 ≤ x0 ∧ x0 ≤ x2 then 1 else 0)), (sh0, I)) := by
  simp only [n_H_within, e_H_within_0, e_H_within_1, e_H_within_2, e_H_within_3, e_H_within_4]
  by_cases h1 : x0 < x1
  · simp [h1, Int32.not_le.mpr h1]
  · by_cases h2 : x2 < x0
    · simp [h1, h2, Int32.not_le.mpr h2]
    · simp [h1, h2, Int32.not_lt.mp h1, Int32.not_lt.mp h2]
theorem s_M_in (d : Nat) (x0 x1 x2 : Int32) (I : mm_I) : Sn (d + 1) q_M_in [.inl x0, .inl x1, .inl x2] I = some (some (.inl (if x1 ≤ x0 ∧ x0 ≤ x2 then 1 else 0)), (sh0, I)) := by
  simp only [n_M_in, e_M_in_0, e_M_in_1, e_M_in_2, e_M_in_3, e_M_in_4]
  by_cases h1 : x0 < x1
  · simp [h1, Int32.not_le.mpr h1]
  · by_cases h2 : x2 < x0
    · simp [h1, h2, Int32.not_le.mpr h2]
    · simp [h1, h2, Int32.not_lt.mp h1, Int32.not_lt.mp h2]
theorem s_H_beds (d : Nat) (x1 : Int32) (I : mm_I) : Sn (d + 2) q_H_beds [.inr (11, 0), .inl x1] I = if 0 ≤ x1 ∧ x1 ≤ 10 then some (some (.inl (I 3 0 13)), (sh0, mm_up I 3 0 13 x1)) else some (some (.inl (-1000000001)), (sh0, I)) := by
  simp only [n_H_beds, e_H_beds_0, e_H_beds_1, e_H_beds_2, e_H_beds_3, s_H_within, bd_s, ct_s]
  by_cases h : 0 ≤ x1 ∧ x1 ≤ 10 <;> simp [h]
theorem s_M_beds (d : Nat) (x1 : Int32) (I : mm_I) : Sn (d + 2) q_M_beds [.inr (12, 0), .inl x1] I = if 0 ≤ x1 ∧ x1 ≤ 10 then some (some (.inl (I 47 0 9)), (sh0, mm_up I 47 0 9 x1)) else some (some (.inl (-1000000001)), (sh0, I)) := by
  simp only [n_M_beds, e_M_beds_0, e_M_beds_1, e_M_beds_2, e_M_beds_3, s_M_in, bd_s, ct_s]
  by_cases h : 0 ≤ x1 ∧ x1 ≤ 10 <;> simp [h]
