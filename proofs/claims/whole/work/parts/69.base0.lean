/-! Hills 0; rows that are added; public arguments. -/
theorem c0_st {A : mm_A} {I : mm_I} {p : Nat} (hC : RepC 0 A I) (hp : p < A 0 0 0) : StC I p (A 1 p) := by
  have := hC.2.2.1 p hp
  rwa [Nat.mul_zero, Nat.zero_add] at this
theorem s_at0 (d t i c : Nat) (A : mm_A) (I : mm_I) (hC : RepC 0 A I) (F : Fix I) (g : Good A) (ht : t < 7) (hi : i < A 0 0 (tH t)) (hc : c < tW t) : Sn (d + 2) q_Rows_at [.inr (7, t), .inl (nI i), .inl (nI c)] I = some (some (.inl (nI (A (4 + t) i c))), (sh0, I)) := by
  have := s_at d 0 t i c A I hC F g (by decide) ht hi hc
  rwa [Nat.mul_zero, Nat.zero_add] at this
theorem c0_mn {A : mm_A} {I : mm_I} {t : Nat} (hC : RepC 0 A I) (ht : t < 7) : I 7 t 3 = nI (A 0 0 (tH t)) := by
  have := hC.2.1 t ht
  rwa [Nat.mul_zero, Nat.zero_add] at this
theorem RepC_st0 {p c v : Nat} {A : mm_A} {I : mm_I} (hC : RepC 0 A I) (hp : p < A 0 0 0) (hc : c < 9) : RepC 0 (sA A 1 p c v) (mm_up I 8 p (sl9 c) (nI v)) := by
  have := RepC_st (v := v) hC hp hc
  rwa [Nat.mul_zero, Nat.zero_add] at this
theorem RepC_row0 {t r c v : Nat} {A : mm_A} {I : mm_I} (hC : RepC 0 A I) (ht : t < 7) (hr : r < A 0 0 (tH t)) (hc : c < tW t) : RepC 0 (sA A (4 + t) r c v) (mm_up I 37 t (r * tW t + c) (nI v)) := by
  have := RepC_row (v := v) hC ht hr hc
  rwa [Nat.mul_zero, Nat.zero_add] at this
theorem ix (x : Int32) : x < nI 0 ∨ ∃ j, j < 2147483648 ∧ x = nI j := by
  by_cases h : x < nI 0
  · exact Or.inl h
  · exact Or.inr (nI_of (by rw [nI_0] at h; exact h))
theorem ngx {x : Int32} (h : x < nI 0) (y : Int32) : (nI 0 ≤ x ∧ x ≤ y) = False := eq_false (fun q => Int32.not_le.mpr h q.1)
theorem ngx' {x : Int32} (h : x < nI 0) : (nI 0 ≤ x) = False := eq_false (Int32.not_le.mpr h)
theorem wj {j n : Nat} (hj : j < 2147483648) (hn : n < 1000000) : (nI 0 ≤ nI j ∧ nI j ≤ nI n - nI 1) = (j < n) := by
  rcases Nat.eq_zero_or_pos n with e | e
  · subst e
    have : nI 0 - nI 1 = -nI 1 := rfl
    rw [this, ngQ hj (by decide) (by decide)]
    simp
  · rw [nsb e, nle (by omega) hj, nle hj (by omega)]
    exact propext ⟨fun q => by omega, fun q => by omega⟩
theorem wj' {x : Int32} {j a b : Nat} (hj : x = nI j) (h1 : j < 2147483648) (ha : a < 2147483648) (hb : b < 2147483648) : (nI a ≤ x ∧ x ≤ nI b) = (a ≤ j ∧ j ≤ b) := by rw [hj, nle ha h1, nle h1 hb]
/-- an int between two numbers is one of them -/
theorem wof {x : Int32} {a b : Nat} (h : nI a ≤ x ∧ x ≤ nI b) (hb : b < 2147483648) (ha : a ≤ b) : ∃ j, a ≤ j ∧ j ≤ b ∧ x = nI j := by
  obtain ⟨j, j1, j2⟩ := nof (Int32.le_trans (show (0 : Int32) ≤ nI a by rw [← nI_0, nle (by decide) (by omega)]; omega) h.1) h.2 hb
  refine ⟨j, ?_, j1, j2⟩
  have := h.1
  rw [j2, nle (by omega) (by omega)] at this
  exact this
theorem s_H_isStretch (d j : Nat) (A : mm_A) (I : mm_I) (hC : RepC 0 A I) (g : Good A) (hj : j < 2147483648) : Sn (d + 2) q_H_isStretch [.inr (11, 0), .inl (nI j)] I = some (some (.inl (nI (if j < A 0 0 0 then 1 else 0))), (sh0, I)) := by
  have hn := g.1.1
  have h1 := hC.1.1
  have hw := wj (n := A 0 0 0) hj (by omega)
  by_cases e : j < A 0 0 0
  · simp (disch := omega) only [n_H_isStretch, e_H_isStretch_0, e_H_isStretch_1, s_H_within, lit, bd_s, ct_s, h1, hw, if_pos e, a11]
  · simp (disch := omega) only [n_H_isStretch, e_H_isStretch_0, e_H_isStretch_1, s_H_within, lit, bd_s, ct_s, h1, hw, if_neg e, a01]
theorem s_H_isStretchN (d : Nat) (x : Int32) (I : mm_I) (hx : x < nI 0) : Sn (d + 2) q_H_isStretch [.inr (11, 0), .inl x] I = some (some (.inl (nI 0)), (sh0, I)) := by
  simp only [n_H_isStretch, e_H_isStretch_0, e_H_isStretch_1, s_H_within, lit, bd_s, ct_s, ngx hx, if_false, a01]
theorem s_M_isPath (d j : Nat) (A : mm_A) (I : mm_I) (hR : RepR 0 A I) (g : Good A) (hj : j < 2147483648) : Sn (d + 2) q_M_isPath [.inr (12, 0), .inl (nI j)] I = some (some (.inl (nI (if j < A 0 0 0 then 1 else 0))), (sh0, I)) := by
  have hn := g.1.1
  have h1 : I 47 0 0 = nI (A 0 0 0) := hR.1 0 (by decide)
  have hw := wj (n := A 0 0 0) hj (by omega)
  by_cases e : j < A 0 0 0
  · simp (disch := omega) only [n_M_isPath, e_M_isPath_0, e_M_isPath_1, s_M_in, lit, inb, nN, if_true, bd_s, ct_s, h1, hw, if_pos e, a11]
  · simp (disch := omega) only [n_M_isPath, e_M_isPath_0, e_M_isPath_1, s_M_in, lit, inb, nN, if_true, bd_s, ct_s, h1, hw, if_neg e, a01]
theorem s_M_isPathN (d : Nat) (x : Int32) (I : mm_I) (hx : x < nI 0) : Sn (d + 2) q_M_isPath [.inr (12, 0), .inl x] I = some (some (.inl (nI 0)), (sh0, I)) := by
  simp (disch := omega) only [n_M_isPath, e_M_isPath_0, e_M_isPath_1, s_M_in, lit, inb, nN, if_true, bd_s, ct_s, ngx hx, if_false, a01]
/-! rows added -/
def rowA (A : mm_A) (t x y z : Nat) : mm_A := fun s r c => if s = 0 ∧ r = 0 ∧ c = tH t then A 0 0 (tH t) + 1 else if s = 4 + t ∧ r = A 0 0 (tH t) then (if c = 0 then x else if c = 1 then y else if c = 2 then z else 0) else A s r c
def ro3 (x y z c : Nat) : Nat := if c = 0 then x else if c = 1 then y else if c = 2 then z else 0
theorem rowA_n (A : mm_A) (t x y z : Nat) : rowA A t x y z 0 0 (tH t) = A 0 0 (tH t) + 1 := if_pos ⟨rfl, rfl, rfl⟩
theorem rowA_0 {A : mm_A} {t x y z c : Nat} (h : c ≠ tH t) : rowA A t x y z 0 0 c = A 0 0 c := by
  unfold rowA
  rw [if_neg (fun q => h q.2.2), if_neg (by omega)]
theorem rowA_s {A : mm_A} {t x y z s : Nat} (h : s ≠ 0) (h2 : s ≠ 4 + t) : rowA A t x y z s = A s := by
  funext r c
  unfold rowA
  rw [if_neg (fun q => h q.1), if_neg (fun q => h2 q.1)]
theorem rowA_r {A : mm_A} {t x y z r : Nat} (h : r ≠ A 0 0 (tH t)) : rowA A t x y z (4 + t) r = A (4 + t) r := by
  funext c
  unfold rowA
  rw [if_neg (by omega), if_neg (fun q => h q.2)]
theorem rowA_w (A : mm_A) (t x y z : Nat) : rowA A t x y z (4 + t) (A 0 0 (tH t)) = ro3 x y z := by
  funext c
  unfold rowA
  rw [if_neg (by omega), if_pos ⟨rfl, rfl⟩]
  rfl
theorem tH_ne {t : Nat} (ht : t < 7) : tH t ≠ 0 ∧ tH t ≠ 2 ∧ tH t ≠ 9 ∧ tH t ≠ 10 ∧ tH t ≠ 11 := by rcases t7 ht with e | e | e | e | e | e | e <;> subst e <;> decide
theorem tH_inj {t t' : Nat} (ht : t < 7) (ht' : t' < 7) (e : tH t' = tH t) : t' = t := by
  rcases t7 ht with q | q | q | q | q | q | q <;> subst q <;> rcases t7 ht' with q | q | q | q | q | q | q <;> subst q <;> first | rfl | exact absurd e (by decide)
theorem ad3_ro (x y z c : Nat) : ad3 (nI x) (nI y) (nI z) c = nI (ro3 x y z c) := by
  unfold ad3 ro3
  split
  · rfl
  · split
    · rfl
    · split <;> rfl
theorem RepC_add {h t x y z : Nat} {A : mm_A} {I : mm_I} (hC : RepC h A I) (ht : t < 7) : RepC h (rowA A t x y z) (wr (mm_up I 7 (7 * h + t) 3 (nI (A 0 0 (tH t) + 1))) 37 (7 * h + t) (A 0 0 (tH t) * tW t) (tW t) (ad3 (nI x) (nI y) (nI z))) := by
  obtain ⟨h1, h2, h3, h4, h5, h6⟩ := hC
  obtain ⟨n0, n2, n9, n10, n11⟩ := tH_ne ht
  unfold RepC
  rw [rowA_0 n0.symm, rowA_0 n2.symm, rowA_0 n9.symm, rowA_0 n10.symm, rowA_0 n11.symm, rowA_s (show 1 ≠ 0 by decide) (by omega), rowA_s (show 2 ≠ 0 by decide) (by omega), rowA_s (show 3 ≠ 0 by decide) (by omega)]
  refine ⟨by simp (disch := omega) only [up_F, wr_F]; exact h1, fun t' ht' => ?_, fun p' hp' => StC_c (h3 p' hp') (by funext j; rw [wr_F (by omega), up_F (by omega)]), fun y hy => by rw [wr_F (by omega), up_F (by omega)]; exact h4 y hy, fun r hr => by simp (disch := omega) only [up_F, wr_F]; exact h5 r hr, fun t' r c ht' hr hc => ?_⟩
  · rw [wr_F (by omega)]
    by_cases e : t' = t
    · rw [e, up_s, rowA_n]
    · rw [up_F (by omega), rowA_0 (fun q => e (tH_inj ht ht' q))]; exact h2 t' ht'
  · by_cases e : t' = t
    · subst e
      rw [rowA_n] at hr
      by_cases e2 : r = A 0 0 (tH t')
      · rw [e2, rowA_w, wr_T (by omega), show A 0 0 (tH t') * tW t' + c - A 0 0 (tH t') * tW t' = c by omega, ad3_ro]
      · rw [rowA_r e2, wr_F, up_F (by omega)]
        · exact h6 t' r c ht' (by omega) hc
        · rintro ⟨-, -, q, -⟩
          have := idx (c := c) (w := tW t') (show r < A 0 0 (tH t') by omega) hc
          omega
    · rw [rowA_0 (fun q => e (tH_inj ht ht' q))] at hr
      rw [rowA_s (by omega) (by omega), wr_F (by omega), up_F (by omega)]
      exact h6 t' r c ht' hr hc
theorem RepC_add0 {t x y z : Nat} {A : mm_A} {I : mm_I} (hC : RepC 0 A I) (ht : t < 7) : RepC 0 (rowA A t x y z) (wr (mm_up I 7 t 3 (nI (A 0 0 (tH t) + 1))) 37 t (A 0 0 (tH t) * tW t) (tW t) (ad3 (nI x) (nI y) (nI z))) := by
  have := RepC_add (x := x) (y := y) (z := z) hC ht
  rwa [Nat.mul_zero, Nat.zero_add] at this
theorem RepR_add {a t x y z : Nat} {A : mm_A} {I I' : mm_I} (hR : RepR a A I) (g : Good A) (ht : t < 7) (hn : A 0 0 (tH t) < tM t) (e1 : I' 47 a (tH t) = nI (A 0 0 (tH t) + 1)) (e2 : ∀ c, c < tW t → I' 47 a (tB t + tW t * A 0 0 (tH t) + c) = nI (ro3 x y z c)) (e3 : ∀ j, j ≠ tH t → ¬ (tB t + tW t * A 0 0 (tH t) ≤ j ∧ j < tB t + tW t * A 0 0 (tH t) + tW t) → I' 47 a j = I 47 a j) : RepR a (rowA A t x y z) I' := by
  obtain ⟨h1, h2, h3, h4, h5⟩ := hR
  obtain ⟨n0, n2, n9, n10, n11⟩ := tH_ne ht
  have hN := g.1.1
  have hX := g.1.2.1
  have hw : 0 < tW t := by rcases t7 ht with e | e | e | e | e | e | e <;> subst e <;> decide
  have r0 := adr_in ht hn hw
  have r1 := adr_in (c := tW t - 1) ht hn (by omega)
  have hT := tH_lt ht
  unfold RepR
  rw [rowA_0 n0.symm, rowA_0 n2.symm, rowA_s (show 1 ≠ 0 by decide) (by omega), rowA_s (show 2 ≠ 0 by decide) (by omega), rowA_s (show 3 ≠ 0 by decide) (by omega)]
  refine ⟨fun c hc => ?_, fun p c hp hc => by rw [e3 _ (by omega) (by omega)]; exact h2 p c hp hc, fun y hy => by rw [e3 _ (by omega) (by omega)]; exact h3 y hy, fun r hr => ?_, fun t' r c ht' hr hc => ?_⟩
  · by_cases e : c = tH t
    · rw [e, rowA_n]; exact e1
    · rw [rowA_0 e, e3 c e (by omega)]; exact h1 c hc
  · have hl := (g.2.2.2.2.1 r hr).2.2.2.2.1
    rw [e3 _ (by omega) (by omega), e3 _ (by omega) (by omega), e3 _ (by omega) (by omega), e3 _ (by omega) (by omega)]
    obtain ⟨q1, q2, q3, q4, q5⟩ := h4 r hr
    exact ⟨q1, q2, q3, q4, fun k hk => by rw [e3 _ (by omega) (by omega)]; exact q5 k hk⟩
  · by_cases e : t' = t
    · subst e
      rw [rowA_n] at hr
      by_cases q : r = A 0 0 (tH t')
      · rw [q, rowA_w]; exact e2 c hc
      · have hr2 : r < A 0 0 (tH t') := by omega
        have ra := adr_in ht (Nat.lt_trans hr2 hn) hc
        have hlt : tW t' * r + tW t' ≤ tW t' * A 0 0 (tH t') := by
          rw [← Nat.mul_succ]
          exact Nat.mul_le_mul_left _ hr2
        rw [rowA_r q, e3 _ (by omega) (by omega)]
        exact h5 t' r c ht' hr2 hc
    · rw [rowA_0 (fun q => e (tH_inj ht ht' q))] at hr
      have hr3 := Nat.lt_of_lt_of_le hr (g.2.1 t' ht')
      have ra := adr_in ht' hr3 hc
      rw [rowA_s (by omega) (by omega), e3 _ (by omega)]
      · exact h5 t' r c ht' hr hc
      · rintro ⟨z1, z2⟩
        obtain ⟨k, k1, k2⟩ : ∃ k, k < tW t ∧ tB t' + tW t' * r + c = tB t + tW t * A 0 0 (tH t) + k := ⟨tB t' + tW t' * r + c - (tB t + tW t * A 0 0 (tH t)), by omega, by omega⟩
        exact e (adr_inj ht hn k1 ht' hr3 hc k2).1
/-! bounds of rows -/
def rowG (t N : Nat) (f : Nat → Nat) : Prop := (t = 0 → f 0 ≤ 9 ∧ f 1 ≤ 9 ∧ f 0 ≠ f 1 ∧ f 2 ≤ 9999) ∧ (t = 1 → f 0 < N ∧ 1 ≤ f 1 ∧ f 1 ≤ 4 ∧ f 2 ≤ 200 ∧ f 3 ≤ 1) ∧ (t = 2 → f 0 < N) ∧ (t = 3 → f 0 ≤ 200 ∧ 1 ≤ f 1 ∧ f 1 ≤ 99999) ∧ (t = 4 → 1 ≤ f 0 ∧ f 0 ≤ 99) ∧ (t = 5 → f 0 ≤ 15 ∧ f 1 ≤ 63) ∧ (t = 6 → f 0 ≤ 3 ∧ 1 ≤ f 1 ∧ f 1 ≤ 60)
theorem Good_row {A : mm_A} (g : Good A) {t r : Nat} (ht : t < 7) (hr : r < A 0 0 (tH t)) : rowG t (A 0 0 0) (A (4 + t) r) := by
  unfold rowG
  refine ⟨fun e => ?_, fun e => ?_, fun e => ?_, fun e => ?_, fun e => ?_, fun e => ?_, fun e => ?_⟩ <;> subst e
  · exact trG g hr
  · exact mdG g hr
  · exact chG g hr
  · exact dnG g hr
  · exact ldG g hr
  · exact ppG g hr
  · exact jbG g hr
theorem Good_mk {A : mm_A} (g1 : A 0 0 0 ≤ 16 ∧ A 0 0 2 ≤ 14 ∧ A 0 0 9 ≤ 10 ∧ A 0 0 10 ≤ 999999999 ∧ A 0 0 11 ≤ 300) (g2 : ∀ t, t < 7 → A 0 0 (tH t) ≤ tM t) (g3 : ∀ p, p < A 0 0 0 → StG (A 1 p)) (g4 : ∀ y, y < 201 → A 2 0 y ≤ 20) (g5 : ∀ r, r < A 0 0 2 → A 3 r 0 ≤ 3 ∧ A 3 r 1 ≤ 3 ∧ A 3 r 2 ≤ 200 ∧ A 3 r 3 ≤ 96 ∧ A 3 r 4 ≤ 96 ∧ (∀ c ∈ cods A r, okC c) ∧ hgt (cods A r) 0 = some 1) (g6 : ∀ t r, t < 7 → r < A 0 0 (tH t) → rowG t (A 0 0 0) (A (4 + t) r)) : Good A :=
  ⟨g1, g2, g3, g4, g5, fun r hr => (g6 0 r (by decide) hr).1 rfl, fun r hr => (g6 1 r (by decide) hr).2.1 rfl, fun r hr => (g6 2 r (by decide) hr).2.2.1 rfl, fun r hr => (g6 3 r (by decide) hr).2.2.2.1 rfl, fun r hr => (g6 4 r (by decide) hr).2.2.2.2.1 rfl, fun r hr => (g6 5 r (by decide) hr).2.2.2.2.2.1 rfl, fun r hr => (g6 6 r (by decide) hr).2.2.2.2.2.2 rfl⟩
theorem Good_add {A : mm_A} {t x y z : Nat} (g : Good A) (ht : t < 7) (hn : A 0 0 (tH t) < tM t) (hr : rowG t (A 0 0 0) (ro3 x y z)) : Good (rowA A t x y z) := by
  obtain ⟨n0, n2, n9, n10, n11⟩ := tH_ne ht
  refine Good_mk ?_ ?_ ?_ ?_ ?_ ?_
  · rw [rowA_0 n0.symm, rowA_0 n2.symm, rowA_0 n9.symm, rowA_0 n10.symm, rowA_0 n11.symm]; exact g.1
  · intro t' ht'
    by_cases e : t' = t
    · subst e; rw [rowA_n]; exact hn
    · rw [rowA_0 (fun q => e (tH_inj ht ht' q))]; exact g.2.1 t' ht'
  · rw [rowA_0 n0.symm, rowA_s (show 1 ≠ 0 by decide) (by omega)]; exact g.2.2.1
  · rw [rowA_s (show 2 ≠ 0 by decide) (by omega)]; exact g.2.2.2.1
  · unfold cods
    rw [rowA_0 n2.symm, rowA_s (show 3 ≠ 0 by decide) (by omega)]; exact g.2.2.2.2.1
  · intro t' r ht' hr'
    rw [rowA_0 n0.symm]
    by_cases e : t' = t
    · subst e
      rw [rowA_n] at hr'
      by_cases q : r = A 0 0 (tH t')
      · rw [q, rowA_w]; exact hr
      · rw [rowA_r q]; exact Good_row g ht (by omega)
    · rw [rowA_0 (fun q => e (tH_inj ht ht' q))] at hr'
      rw [rowA_s (by omega) (by omega)]
      exact Good_row g ht' hr'
