/-! Writes of the abstract state, and what they are in the class and in the reference. -/
def sA (A : mm_A) (s r c v : Nat) : mm_A := fun s' r' c' => if s' = s ∧ r' = r ∧ c' = c then v else A s' r' c'
theorem sA_s (A : mm_A) (s r c v : Nat) : sA A s r c v s r c = v := if_pos ⟨rfl, rfl, rfl⟩
theorem sA_F {A : mm_A} {s r c v s' r' c' : Nat} (h : ¬ (s' = s ∧ r' = r ∧ c' = c)) : sA A s r c v s' r' c' = A s' r' c' := if_neg h
theorem sA_T {A : mm_A} {s r c v s' r' c' : Nat} (h : s' = s ∧ r' = r ∧ c' = c) : sA A s r c v s' r' c' = v := if_pos h
theorem sA_o {A : mm_A} {s r c v s' : Nat} (h : s' ≠ s) : sA A s r c v s' = A s' := by funext r' c'; exact sA_F (fun q => h q.1)
theorem sA_r (A : mm_A) (s r c v : Nat) : sA A s r c v s r = uN (A s r) c v := by
  funext c'
  unfold sA uN
  by_cases e : c' = c
  · rw [if_pos ⟨rfl, rfl, e⟩, if_pos e]
  · rw [if_neg (fun q => e q.2.2), if_neg e]
theorem sA_ro {A : mm_A} {s r c v r' : Nat} (h : r' ≠ r) : sA A s r c v s r' = A s r' := by funext c'; exact sA_F (fun q => h q.2.1)
theorem mulinj {w r c r' c' : Nat} (hc : c < w) (hc' : c' < w) (e : w * r' + c' = w * r + c) : r' = r ∧ c' = c := by
  have hw : 0 < w := by omega
  have q1 : (w * r' + c') / w = r' := by rw [Nat.mul_add_div hw, Nat.div_eq_of_lt hc', Nat.add_zero]
  have q2 : (w * r + c) / w = r := by rw [Nat.mul_add_div hw, Nat.div_eq_of_lt hc, Nat.add_zero]
  have q3 : r' = r := by rw [← q1, e, q2]
  subst q3
  exact ⟨rfl, by omega⟩
def sl9 (c : Nat) : Nat := mm_at 0 [0, 1, 2, 3, 4, 6, 5, 8, 7] c
theorem c9 {c : Nat} (h : c < 9) : c = 0 ∨ c = 1 ∨ c = 2 ∨ c = 3 ∨ c = 4 ∨ c = 5 ∨ c = 6 ∨ c = 7 ∨ c = 8 := by omega
theorem sl9_inj {c c' : Nat} (h : c < 9) (h' : c' < 9) (e : sl9 c = sl9 c') : c = c' := by
  rcases c9 h with q | q | q | q | q | q | q | q | q <;> subst q <;> rcases c9 h' with q | q | q | q | q | q | q | q | q <;> subst q <;> first | rfl | exact absurd e (by decide)
theorem StC_iff {I : mm_I} {r : Nat} {f : Nat → Nat} : StC I r f ↔ ∀ c, c < 9 → I 8 r (sl9 c) = nI (f c) := by
  constructor
  · rintro ⟨h0, h1, h2, h3, h4, h5, h6, h7, h8⟩ c hc
    rcases c9 hc with q | q | q | q | q | q | q | q | q <;> subst q <;> assumption
  · intro h
    exact ⟨h 0 (by decide), h 1 (by decide), h 2 (by decide), h 3 (by decide), h 4 (by decide), h 5 (by decide), h 6 (by decide), h 7 (by decide), h 8 (by decide)⟩
theorem StC_up {I : mm_I} {r c v : Nat} {f : Nat → Nat} (h : StC I r f) (hc : c < 9) : StC (mm_up I 8 r (sl9 c) (nI v)) r (uN f c v) := by
  rw [StC_iff] at h ⊢
  intro c' hc'
  by_cases e : c' = c
  · rw [e, up_s, uN_s]
  · rw [up_F (fun q => e (sl9_inj hc' hc q.2.2)), uN_n e]
    exact h c' hc'
theorem RepC_st {h p c v : Nat} {A : mm_A} {I : mm_I} (hC : RepC h A I) (hp : p < A 0 0 0) (hc : c < 9) : RepC h (sA A 1 p c v) (mm_up I 8 (16 * h + p) (sl9 c) (nI v)) := by
  obtain ⟨h1, h2, h3, h4, h5, h6⟩ := hC
  unfold RepC
  rw [sA_o (show 0 ≠ 1 by decide), sA_o (show 2 ≠ 1 by decide), sA_o (show 3 ≠ 1 by decide)]
  refine ⟨by simp (disch := omega) only [up_F]; exact h1, fun t ht => by rw [up_F (by omega)]; exact h2 t ht, fun p' hp' => ?_, fun y hy => by rw [up_F (by omega)]; exact h4 y hy, fun r hr => by simp (disch := omega) only [up_F]; exact h5 r hr, fun t r c ht hr hc => by rw [up_F (by omega), sA_o (by omega)]; exact h6 t r c ht hr hc⟩
  by_cases e : p' = p
  · rw [e, sA_r]; exact StC_up (h3 p hp) hc
  · rw [sA_ro e]; exact StC_c (h3 p' hp') (by funext j; exact up_F (by omega))
theorem RepC_row {h t r c v : Nat} {A : mm_A} {I : mm_I} (hC : RepC h A I) (ht : t < 7) (hr : r < A 0 0 (tH t)) (hc : c < tW t) : RepC h (sA A (4 + t) r c v) (mm_up I 37 (7 * h + t) (r * tW t + c) (nI v)) := by
  obtain ⟨h1, h2, h3, h4, h5, h6⟩ := hC
  unfold RepC
  rw [sA_o (show 0 ≠ 4 + t by omega), sA_o (show 1 ≠ 4 + t by omega), sA_o (show 2 ≠ 4 + t by omega), sA_o (show 3 ≠ 4 + t by omega)]
  refine ⟨by simp (disch := omega) only [up_F]; exact h1, fun t ht => by rw [up_F (by omega)]; exact h2 t ht, fun p' hp' => StC_c (h3 p' hp') (by funext j; exact up_F (by omega)), fun y hy => by rw [up_F (by omega)]; exact h4 y hy, fun r hr => by simp (disch := omega) only [up_F]; exact h5 r hr, fun t' r' c' ht' hr' hc' => ?_⟩
  by_cases e : t' = t
  · subst e
    by_cases e2 : r' = r ∧ c' = c
    · rw [e2.1, e2.2, up_s, sA_s]
    · rw [sA_F (fun q => e2 ⟨q.2.1, q.2.2⟩), up_F]
      · exact h6 t' r' c' ht' hr' hc'
      · rintro ⟨-, -, q⟩
        rw [Nat.mul_comm r', Nat.mul_comm r] at q
        exact e2 (mulinj hc hc' q)
  · rw [sA_o (by omega), up_F (by omega)]
    exact h6 t' r' c' ht' hr' hc'
theorem RepC_beds {h v : Nat} {A : mm_A} {I : mm_I} (hC : RepC h A I) : RepC h (sA A 0 0 9 v) (mm_up I 3 h 13 (nI v)) := by
  obtain ⟨⟨a1, a2, a3, a4, a5⟩, h2, h3, h4, h5, h6⟩ := hC
  have e : ∀ t, t < 7 → sA A 0 0 9 v 0 0 (tH t) = A 0 0 (tH t) := fun t ht => sA_F (by rcases t7 ht with e | e | e | e | e | e | e <;> subst e <;> decide)
  unfold RepC
  rw [sA_F (show ¬ (0 = 0 ∧ 0 = 0 ∧ 0 = 9) by decide), sA_F (show ¬ (0 = 0 ∧ 0 = 0 ∧ 2 = 9) by decide), sA_F (show ¬ (0 = 0 ∧ 0 = 0 ∧ 10 = 9) by decide), sA_F (show ¬ (0 = 0 ∧ 0 = 0 ∧ 11 = 9) by decide), sA_s, sA_o (show 1 ≠ 0 by decide), sA_o (show 2 ≠ 0 by decide), sA_o (show 3 ≠ 0 by decide)]
  refine ⟨by simp (disch := omega) only [up_F, up_s]; exact ⟨a1, a2, trivial, a4, a5⟩, fun t ht => by rw [up_F (by omega), e t ht]; exact h2 t ht, fun p' hp' => StC_c (h3 p' hp') (by funext j; exact up_F (by omega)), fun y hy => by rw [up_F (by omega)]; exact h4 y hy, fun r hr => by simp (disch := omega) only [up_F]; exact h5 r hr, fun t r c ht hr hc => ?_⟩
  rw [e t ht] at hr
  rw [up_F (by omega), sA_o (by omega)]
  exact h6 t r c ht hr hc
theorem RepC_purse {h v : Nat} {A : mm_A} {I : mm_I} (hC : RepC h A I) : RepC h (sA A 0 0 10 v) (mm_up I 3 h 7 (nI v)) := by
  obtain ⟨⟨a1, a2, a3, a4, a5⟩, h2, h3, h4, h5, h6⟩ := hC
  have e : ∀ t, t < 7 → sA A 0 0 10 v 0 0 (tH t) = A 0 0 (tH t) := fun t ht => sA_F (by rcases t7 ht with e | e | e | e | e | e | e <;> subst e <;> decide)
  unfold RepC
  rw [sA_F (show ¬ (0 = 0 ∧ 0 = 0 ∧ 0 = 10) by decide), sA_F (show ¬ (0 = 0 ∧ 0 = 0 ∧ 2 = 10) by decide), sA_F (show ¬ (0 = 0 ∧ 0 = 0 ∧ 9 = 10) by decide), sA_F (show ¬ (0 = 0 ∧ 0 = 0 ∧ 11 = 10) by decide), sA_s, sA_o (show 1 ≠ 0 by decide), sA_o (show 2 ≠ 0 by decide), sA_o (show 3 ≠ 0 by decide)]
  refine ⟨by simp (disch := omega) only [up_F, up_s]; exact ⟨a1, a2, a3, trivial, a5⟩, fun t ht => by rw [up_F (by omega), e t ht]; exact h2 t ht, fun p' hp' => StC_c (h3 p' hp') (by funext j; exact up_F (by omega)), fun y hy => by rw [up_F (by omega)]; exact h4 y hy, fun r hr => by simp (disch := omega) only [up_F]; exact h5 r hr, fun t r c ht hr hc => ?_⟩
  rw [e t ht] at hr
  rw [up_F (by omega), sA_o (by omega)]
  exact h6 t r c ht hr hc
theorem RepC_year {h v : Nat} {A : mm_A} {I : mm_I} (hC : RepC h A I) : RepC h (sA A 0 0 11 v) (mm_up I 3 h 4 (nI v)) := by
  obtain ⟨⟨a1, a2, a3, a4, a5⟩, h2, h3, h4, h5, h6⟩ := hC
  have e : ∀ t, t < 7 → sA A 0 0 11 v 0 0 (tH t) = A 0 0 (tH t) := fun t ht => sA_F (by rcases t7 ht with e | e | e | e | e | e | e <;> subst e <;> decide)
  unfold RepC
  rw [sA_F (show ¬ (0 = 0 ∧ 0 = 0 ∧ 0 = 11) by decide), sA_F (show ¬ (0 = 0 ∧ 0 = 0 ∧ 2 = 11) by decide), sA_F (show ¬ (0 = 0 ∧ 0 = 0 ∧ 9 = 11) by decide), sA_F (show ¬ (0 = 0 ∧ 0 = 0 ∧ 10 = 11) by decide), sA_s, sA_o (show 1 ≠ 0 by decide), sA_o (show 2 ≠ 0 by decide), sA_o (show 3 ≠ 0 by decide)]
  refine ⟨by simp (disch := omega) only [up_F, up_s]; exact ⟨a1, a2, a3, a4, trivial⟩, fun t ht => by rw [up_F (by omega), e t ht]; exact h2 t ht, fun p' hp' => StC_c (h3 p' hp') (by funext j; exact up_F (by omega)), fun y hy => by rw [up_F (by omega)]; exact h4 y hy, fun r hr => by simp (disch := omega) only [up_F]; exact h5 r hr, fun t r c ht hr hc => ?_⟩
  rw [e t ht] at hr
  rw [up_F (by omega), sA_o (by omega)]
  exact h6 t r c ht hr hc
theorem RepC_rain {h y v : Nat} {A : mm_A} {I : mm_I} (hC : RepC h A I) : RepC h (sA A 2 0 y v) (mm_up I 28 h y (nI v)) := by
  obtain ⟨h1, h2, h3, h4, h5, h6⟩ := hC
  unfold RepC
  rw [sA_o (show 0 ≠ 2 by decide), sA_o (show 1 ≠ 2 by decide), sA_o (show 3 ≠ 2 by decide)]
  refine ⟨by simp (disch := omega) only [up_F]; exact h1, fun t ht => by rw [up_F (by omega)]; exact h2 t ht, fun p' hp' => StC_c (h3 p' hp') (by funext j; exact up_F (by omega)), fun y' hy => ?_, fun r hr => by simp (disch := omega) only [up_F]; exact h5 r hr, fun t r c ht hr hc => by rw [up_F (by omega), sA_o (by omega)]; exact h6 t r c ht hr hc⟩
  by_cases e : y' = y
  · rw [e, up_s, sA_s]
  · rw [up_F (by omega), sA_F (by omega)]; exact h4 y' hy
/-! the reference's places -/
theorem tB_v : tB 0 = 156 ∧ tB 1 = 192 ∧ tB 2 = 272 ∧ tB 3 = 278 ∧ tB 4 = 302 ∧ tB 5 = 312 ∧ tB 6 = 332 := ⟨rfl, rfl, rfl, rfl, rfl, rfl, rfl⟩
theorem tW_v : tW 0 = 3 ∧ tW 1 = 4 ∧ tW 2 = 1 ∧ tW 3 = 2 ∧ tW 4 = 1 ∧ tW 5 = 2 ∧ tW 6 = 2 := ⟨rfl, rfl, rfl, rfl, rfl, rfl, rfl⟩
theorem tM_v : tM 0 = 12 ∧ tM 1 = 20 ∧ tM 2 = 6 ∧ tM 3 = 12 ∧ tM 4 = 10 ∧ tM 5 = 10 ∧ tM 6 = 4 := ⟨rfl, rfl, rfl, rfl, rfl, rfl, rfl⟩
theorem adr_in {t r c : Nat} (ht : t < 7) (hr : r < tM t) (hc : c < tW t) : 156 ≤ tB t + tW t * r + c ∧ tB t + tW t * r + c < 340 := by
  obtain ⟨a0, a1, a2, a3, a4, a5, a6⟩ := tB_v
  obtain ⟨b0, b1, b2, b3, b4, b5, b6⟩ := tW_v
  obtain ⟨c0, c1, c2, c3, c4, c5, c6⟩ := tM_v
  rcases t7 ht with e | e | e | e | e | e | e <;> subst e <;> simp only [a0, a1, a2, a3, a4, a5, a6, b0, b1, b2, b3, b4, b5, b6, c0, c1, c2, c3, c4, c5, c6] at * <;> omega
theorem adr_inj {t r c t' r' c' : Nat} (ht : t < 7) (hr : r < tM t) (hc : c < tW t) (ht' : t' < 7) (hr' : r' < tM t') (hc' : c' < tW t') (e : tB t' + tW t' * r' + c' = tB t + tW t * r + c) : t' = t ∧ r' = r ∧ c' = c := by
  obtain ⟨a0, a1, a2, a3, a4, a5, a6⟩ := tB_v
  obtain ⟨b0, b1, b2, b3, b4, b5, b6⟩ := tW_v
  obtain ⟨c0, c1, c2, c3, c4, c5, c6⟩ := tM_v
  by_cases z : t' = t
  · subst z
    obtain ⟨z1, z2⟩ := mulinj (r := r) (r' := r') hc hc' (by omega)
    exact ⟨rfl, z1, z2⟩
  exfalso
  rcases t7 ht with q | q | q | q | q | q | q <;> subst q <;> rcases t7 ht' with q | q | q | q | q | q | q <;> subst q <;> first | exact absurd rfl z | (simp only [a0, a1, a2, a3, a4, a5, a6, b0, b1, b2, b3, b4, b5, b6, c0, c1, c2, c3, c4, c5, c6] at hr hc hr' hc' e; omega)
theorem RepR_st {a p c v : Nat} {A : mm_A} {I : mm_I} (hR : RepR a A I) (g : Good A) (hp : p < A 0 0 0) (hc : c < 9) : RepR a (sA A 1 p c v) (mm_up I 47 a (12 + 9 * p + c) (nI v)) := by
  obtain ⟨h1, h2, h3, h4, h5⟩ := hR
  have hN := g.1.1
  have hX := g.1.2.1
  unfold RepR
  rw [sA_o (show 0 ≠ 1 by decide), sA_o (show 2 ≠ 1 by decide), sA_o (show 3 ≠ 1 by decide)]
  refine ⟨fun c' hc' => by rw [up_F (by omega)]; exact h1 c' hc', fun p' c' hp' hc' => ?_, fun y hy => by rw [up_F (by omega)]; exact h3 y hy, fun r hr => ?_, fun t r c' ht hr hc' => ?_⟩
  · by_cases e : p' = p ∧ c' = c
    · rw [e.1, e.2, up_s, sA_s]
    · rw [up_F (by omega), sA_F (by omega)]; exact h2 p' c' hp' hc'
  · simp (disch := omega) only [up_F]; exact h4 r hr
  · have := adr_in ht (Nat.lt_of_lt_of_le hr (g.2.1 t ht)) hc'
    rw [up_F (by omega), sA_o (by omega)]; exact h5 t r c' ht hr hc'
theorem RepR_row {a t r c v : Nat} {A : mm_A} {I : mm_I} (hR : RepR a A I) (g : Good A) (ht : t < 7) (hr : r < A 0 0 (tH t)) (hc : c < tW t) : RepR a (sA A (4 + t) r c v) (mm_up I 47 a (tB t + tW t * r + c) (nI v)) := by
  obtain ⟨h1, h2, h3, h4, h5⟩ := hR
  have hN := g.1.1
  have hX := g.1.2.1
  have hi := adr_in ht (Nat.lt_of_lt_of_le hr (g.2.1 t ht)) hc
  unfold RepR
  rw [sA_o (show 0 ≠ 4 + t by omega), sA_o (show 1 ≠ 4 + t by omega), sA_o (show 2 ≠ 4 + t by omega), sA_o (show 3 ≠ 4 + t by omega)]
  refine ⟨fun c' hc' => by rw [up_F (by omega)]; exact h1 c' hc', fun p' c' hp' hc' => by rw [up_F (by omega)]; exact h2 p' c' hp' hc', fun y hy => by rw [up_F (by omega)]; exact h3 y hy, fun r hr => ?_, fun t' r' c' ht' hr' hc' => ?_⟩
  · simp (disch := omega) only [up_F]; exact h4 r hr
  · by_cases e : tB t' + tW t' * r' + c' = tB t + tW t * r + c
    · obtain ⟨e1, e2, e3⟩ := adr_inj ht (Nat.lt_of_lt_of_le hr (g.2.1 t ht)) hc ht' (Nat.lt_of_lt_of_le hr' (g.2.1 t' ht')) hc' e
      subst e1; subst e2; subst e3
      rw [up_s, sA_s]
    · rw [up_F (fun q => e q.2.2), sA_F]
      · exact h5 t' r' c' ht' hr' hc'
      · rintro ⟨q1, q2, q3⟩
        have q4 : t' = t := by omega
        subst q4; subst q2; subst q3
        exact e rfl
theorem RepR_sc {a c v : Nat} {A : mm_A} {I : mm_I} (hR : RepR a A I) (g : Good A) (hc : 9 ≤ c) (hc2 : c < 12) : RepR a (sA A 0 0 c v) (mm_up I 47 a c (nI v)) := by
  obtain ⟨h1, h2, h3, h4, h5⟩ := hR
  have hN := g.1.1
  have hX := g.1.2.1
  have e : ∀ t, t < 7 → sA A 0 0 c v 0 0 (tH t) = A 0 0 (tH t) := fun t ht => sA_F (by rcases t7 ht with e | e | e | e | e | e | e <;> subst e <;> simp [tH, mm_at] <;> omega)
  unfold RepR
  rw [sA_F (show ¬ (0 = 0 ∧ 0 = 0 ∧ 0 = c) by omega), sA_F (show ¬ (0 = 0 ∧ 0 = 0 ∧ 2 = c) by omega), sA_o (show 1 ≠ 0 by decide), sA_o (show 2 ≠ 0 by decide), sA_o (show 3 ≠ 0 by decide)]
  refine ⟨fun c' hc' => ?_, fun p' c' hp' hc' => by rw [up_F (by omega)]; exact h2 p' c' hp' hc', fun y hy => by rw [up_F (by omega)]; exact h3 y hy, fun r hr => ?_, fun t' r' c' ht' hr' hc' => ?_⟩
  · by_cases q : c' = c
    · rw [q, up_s, sA_s]
    · rw [up_F (by omega), sA_F (by omega)]; exact h1 c' hc'
  · simp (disch := omega) only [up_F]; exact h4 r hr
  · rw [e t' ht'] at hr'
    have := adr_in ht' (Nat.lt_of_lt_of_le hr' (g.2.1 t' ht')) hc'
    rw [up_F (by omega), sA_o (by omega)]
    exact h5 t' r' c' ht' hr' hc'
theorem RepR_rain {a y v : Nat} {A : mm_A} {I : mm_I} (hR : RepR a A I) (g : Good A) (hy : y < 201) : RepR a (sA A 2 0 y v) (mm_up I 47 a (340 + y) (nI v)) := by
  obtain ⟨h1, h2, h3, h4, h5⟩ := hR
  have hN := g.1.1
  have hX := g.1.2.1
  unfold RepR
  rw [sA_o (show 0 ≠ 2 by decide), sA_o (show 1 ≠ 2 by decide), sA_o (show 3 ≠ 2 by decide)]
  refine ⟨fun c' hc' => by rw [up_F (by omega)]; exact h1 c' hc', fun p' c' hp' hc' => by rw [up_F (by omega)]; exact h2 p' c' hp' hc', fun y' hy' => ?_, fun r hr => ?_, fun t r c' ht hr hc' => ?_⟩
  · by_cases e : y' = y
    · rw [e, up_s, sA_s]
    · rw [up_F (by omega), sA_F (by omega)]; exact h3 y' hy'
  · simp (disch := omega) only [up_F]; exact h4 r hr
  · have := adr_in ht (Nat.lt_of_lt_of_le hr (g.2.1 t ht)) hc'
    rw [up_F (by omega), sA_o (by omega)]; exact h5 t r c' ht hr hc'
