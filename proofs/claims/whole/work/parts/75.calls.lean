/-! Calls: stretch, run, lost. -/
def strA (A : mm_A) (f : Nat → Nat) : mm_A := fun s r c => if s = 0 ∧ r = 0 ∧ c = 0 then A 0 0 0 + 1 else if s = 1 ∧ r = A 0 0 0 then f c else A s r c
theorem strA_n (A : mm_A) (f : Nat → Nat) : strA A f 0 0 0 = A 0 0 0 + 1 := if_pos ⟨rfl, rfl, rfl⟩
theorem strA_0 {A : mm_A} {f : Nat → Nat} {c : Nat} (h : c ≠ 0) : strA A f 0 0 c = A 0 0 c := by
  unfold strA
  rw [if_neg (fun q => h q.2.2), if_neg (by omega)]
theorem strA_s {A : mm_A} {f : Nat → Nat} {s : Nat} (h : s ≠ 0) (h2 : s ≠ 1) : strA A f s = A s := by
  funext r c
  unfold strA
  rw [if_neg (fun q => h q.1), if_neg (fun q => h2 q.1)]
theorem strA_r {A : mm_A} {f : Nat → Nat} {r : Nat} (h : r ≠ A 0 0 0) : strA A f 1 r = A 1 r := by
  funext c
  unfold strA
  rw [if_neg (by omega), if_neg (fun q => h q.2)]
theorem strA_w (A : mm_A) (f : Nat → Nat) : strA A f 1 (A 0 0 0) = f := by
  funext c
  unfold strA
  rw [if_neg (by omega), if_pos ⟨rfl, rfl⟩]
theorem RepC_str {A : mm_A} {f : Nat → Nat} {I I' : mm_I} (hC : RepC 0 A I) (e1 : I' 3 0 1 = nI (A 0 0 0 + 1)) (e2 : StC I' (A 0 0 0) f) (e3 : ∀ k i j, ¬ (k = 3 ∧ i = 0 ∧ j = 1) → ¬ (k = 8 ∧ i = A 0 0 0) → I' k i j = I k i j) : RepC 0 (strA A f) I' := by
  obtain ⟨⟨a1, a2, a3, a4, a5⟩, h2, h3, h4, h5, h6⟩ := hC
  unfold RepC
  rw [strA_n, strA_0 (show 2 ≠ 0 by decide), strA_0 (show 9 ≠ 0 by decide), strA_0 (show 10 ≠ 0 by decide), strA_0 (show 11 ≠ 0 by decide), strA_s (show 2 ≠ 0 by decide) (by decide), strA_s (show 3 ≠ 0 by decide) (by decide)]
  refine ⟨⟨e1, by rw [e3 _ _ _ (by omega) (by omega)]; exact a2, by rw [e3 _ _ _ (by omega) (by omega)]; exact a3, by rw [e3 _ _ _ (by omega) (by omega)]; exact a4, by rw [e3 _ _ _ (by omega) (by omega)]; exact a5⟩, fun t ht => ?_, fun p hp => ?_, fun y hy => by rw [e3 _ _ _ (by omega) (by omega)]; exact h4 y hy, fun r hr => ?_, fun t r c ht hr hc => ?_⟩
  · rw [e3 _ _ _ (by omega) (by omega), strA_0 (tH_ne ht).1]; exact h2 t ht
  · by_cases e : p = A 0 0 0
    · rw [e, strA_w, Nat.mul_zero, Nat.zero_add]; exact e2
    · rw [strA_r e]
      exact StC_c (h3 p (by omega)) (by funext j; exact e3 _ _ _ (by omega) (by omega))
  · obtain ⟨q1, q2, q3, q4, q5, q6⟩ := h5 r hr
    rw [e3 _ _ _ (by omega) (by omega), e3 _ _ _ (by omega) (by omega), e3 _ _ _ (by omega) (by omega), e3 _ _ _ (by omega) (by omega), e3 _ _ _ (by omega) (by omega)]
    exact ⟨q1, q2, q3, q4, q5, fun k hk => by rw [e3 _ _ _ (by omega) (by omega)]; exact q6 k hk⟩
  · rw [strA_0 (tH_ne ht).1] at hr
    rw [strA_s (by omega) (by omega), e3 _ _ _ (by omega) (by omega)]
    exact h6 t r c ht hr hc
theorem RepR_str {A : mm_A} {f : Nat → Nat} {I I' : mm_I} (hR : RepR 0 A I) (g : Good A) (hn : A 0 0 0 < 16) (e1 : I' 47 0 0 = nI (A 0 0 0 + 1)) (e2 : ∀ c, c < 9 → I' 47 0 (12 + 9 * A 0 0 0 + c) = nI (f c)) (e3 : ∀ j, j ≠ 0 → ¬ (12 + 9 * A 0 0 0 ≤ j ∧ j < 12 + 9 * A 0 0 0 + 9) → I' 47 0 j = I 47 0 j) : RepR 0 (strA A f) I' := by
  obtain ⟨h1, h2, h3, h4, h5⟩ := hR
  have hX := g.1.2.1
  unfold RepR
  rw [strA_n, strA_0 (show 2 ≠ 0 by decide), strA_s (show 2 ≠ 0 by decide) (by decide), strA_s (show 3 ≠ 0 by decide) (by decide)]
  refine ⟨fun c hc => ?_, fun p c hp hc => ?_, fun y hy => by rw [e3 _ (by omega) (by omega)]; exact h3 y hy, fun r hr => ?_, fun t r c ht hr hc => ?_⟩
  · by_cases e : c = 0
    · rw [e, strA_n]; exact e1
    · rw [strA_0 e, e3 c e (by omega)]; exact h1 c hc
  · by_cases e : p = A 0 0 0
    · rw [e, strA_w]; exact e2 c hc
    · rw [strA_r e, e3 _ (by omega) (by omega)]; exact h2 p c (by omega) hc
  · have hl := (g.2.2.2.2.1 r hr).2.2.2.2.1
    rw [e3 _ (by omega) (by omega), e3 _ (by omega) (by omega), e3 _ (by omega) (by omega), e3 _ (by omega) (by omega)]
    obtain ⟨q1, q2, q3, q4, q5⟩ := h4 r hr
    exact ⟨q1, q2, q3, q4, fun k hk => by rw [e3 _ (by omega) (by omega)]; exact q5 k hk⟩
  · rw [strA_0 (tH_ne ht).1] at hr
    have ra := adr_in ht (Nat.lt_of_lt_of_le hr (g.2.1 t ht)) hc
    rw [strA_s (by omega) (by omega), e3 _ (by omega) (by omega)]
    exact h5 t r c ht hr hc
theorem Good_str {A : mm_A} {f : Nat → Nat} (g : Good A) (hn : A 0 0 0 < 16) (hf : StG f) : Good (strA A f) := by
  refine Good_mk ?_ ?_ ?_ ?_ ?_ ?_
  · rw [strA_n, strA_0 (show 2 ≠ 0 by decide), strA_0 (show 9 ≠ 0 by decide), strA_0 (show 10 ≠ 0 by decide), strA_0 (show 11 ≠ 0 by decide)]
    exact ⟨by omega, g.1.2⟩
  · intro t ht
    rw [strA_0 (tH_ne ht).1]; exact g.2.1 t ht
  · intro p hp
    rw [strA_n] at hp
    by_cases e : p = A 0 0 0
    · rw [e, strA_w]; exact hf
    · rw [strA_r e]; exact stG g (by omega)
  · rw [strA_s (by decide) (by decide)]; exact g.2.2.2.1
  · unfold cods; rw [strA_0 (by decide), strA_s (show 3 ≠ 0 by decide) (by decide)]; exact g.2.2.2.2.1
  · intro t r ht hr
    rw [strA_0 (tH_ne ht).1] at hr
    rw [strA_n, strA_s (by omega) (by omega)]
    obtain ⟨q1, q2, q3, q4, q5, q6, q7⟩ := Good_row g ht hr
    exact ⟨q1, fun e => by have := q2 e; omega, fun e => by have := q3 e; omega, q4, q5, q6, q7⟩
def nwF (c l gr o : Nat) (k : Nat) : Nat := mm_at 0 [c / 10, c % 10, l, gr / 10, gr % 10, 10, o, 0, 0] k
theorem s_Stretch_begin (d r c l gr o : Nat) (I : mm_I) (hc : c ≤ 99) (hg : gr ≤ 99) : ∃ I', Sn (d + 1) q_Stretch_begin [.inr (8, r), .inl (nI c), .inl (nI l), .inl (nI gr), .inl (nI o)] I = some (none, (sh0, I')) ∧ StC I' r (nwF c l gr o) ∧ ∀ k i, ¬ (k = 8 ∧ i = r) → I' k i = I k i := by
  refine ⟨mm_up (mm_up (mm_up (mm_up (mm_up (mm_up (mm_up (mm_up (mm_up I 8 r 0 (nI (c / 10))) 8 r 1 (nI (c % 10))) 8 r 2 (nI l)) 8 r 3 (nI (gr / 10))) 8 r 4 (nI (gr % 10))) 8 r 5 (nI o)) 8 r 6 (nI 10)) 8 r 7 (nI 0)) 8 r 8 (nI 0), ?_, ?_, ?_⟩
  · simp (disch := omega) only [n_Stretch_begin, e_Stretch_begin_0, lit, nad, nml, bd_s, ct_s, ct_n, a11, a01, aB2, bitA, nlt, nle, neq, dlT, dlF, deT, deF, dqT, dqF, nN, inb, nsb, ndv, nrm, if_true, if_false, ite_true, ite_false, true_and, and_true, and_self, and_false, false_and, or_true, true_or, or_false, false_or, or_self, ↓reduceIte, eq_self, Nat.reduceAdd, Nat.reduceMul, Nat.reduceSub, Nat.reduceDiv, Nat.reduceMod, Nat.zero_add, Nat.mul_zero, not_true_eq_false, not_false_eq_true, up_T, up_F, wr_T, wr_F, ngE, ngE', ngL, ngL', ngQ, ngQ', md10]
  · unfold StC
    simp (disch := omega) only [up_T, up_F]
    exact ⟨rfl, rfl, rfl, rfl, rfl, rfl, rfl, rfl, rfl⟩
  · intro k i h
    funext j
    simp (disch := omega) only [up_F]
theorem x_M_stretch (d c l gr o m : Nat) (I : mm_I) (hn : I 47 0 0 = nI m) (hm : m < 16) (hc : c ≤ 99) (hg : gr ≤ 99) : Rn d q_M_stretch 13 [some (.inr (12, 0)), some (.inl (nI c)), some (.inl (nI l)), some (.inl (nI gr)), some (.inl (nI o)), none] [] I = some (some (.inl (nI m)), (sh0, mm_up (mm_up (mm_up (mm_up (mm_up (mm_up (mm_up (mm_up (mm_up (mm_up I 47 0 (12 + 9 * m) (nI (c / 10))) 47 0 (12 + 9 * m + 1) (nI (c % 10))) 47 0 (12 + 9 * m + 2) (nI l)) 47 0 (12 + 9 * m + 3) (nI (gr / 10))) 47 0 (12 + 9 * m + 4) (nI (gr % 10))) 47 0 (12 + 9 * m + 5) (nI 10)) 47 0 (12 + 9 * m + 6) (nI o)) 47 0 (12 + 9 * m + 7) (nI 0)) 47 0 (12 + 9 * m + 8) (nI 0)) 47 0 0 (nI (m + 1)))) := by
  simp (disch := omega) only [e_M_stretch_13, lit, nad, nml, bd_s, ct_s, ct_n, a11, a01, aB2, bitA, nlt, nle, neq, dlT, dlF, deT, deF, dqT, dqF, nN, inb, nsb, ndv, nrm, if_true, if_false, ite_true, ite_false, true_and, and_true, and_self, and_false, false_and, or_true, true_or, or_false, false_or, or_self, ↓reduceIte, eq_self, Nat.reduceAdd, Nat.reduceMul, Nat.reduceSub, Nat.reduceDiv, Nat.reduceMod, Nat.zero_add, Nat.mul_zero, not_true_eq_false, not_false_eq_true, up_T, up_F, wr_T, wr_F, ngE, ngE', ngL, ngL', ngQ, ngQ', hn, md10, Nat.add_sub_cancel]
theorem Ok_stretch (d : Nat) (c l gr o : Int32) : Ok (d + 200) q_H_stretch q_M_stretch [.inl c, .inl l, .inl gr, .inl o] := by
  by_cases h1 : nI 0 ≤ c ∧ c ≤ nI 99
  rotate_left
  · refine call_id (fun _ => -nI 1000000001) (fun A I _ _ _ _ => ?_) (fun A I _ _ _ _ => ?_)
    · simp (disch := omega) only [n_H_stretch, e_H_stretch_0, e_H_stretch_1, e_H_stretch_2, e_H_stretch_3, e_H_stretch_4, e_H_stretch_5, e_H_stretch_6, e_H_stretch_7, e_H_stretch_8, e_H_stretch_9, e_H_stretch_10, e_H_stretch_11, e_H_stretch_12, e_H_stretch_13, e_H_stretch_14, s_H_areTwoCairnsN _ _ _ h1, lit, nad, nml, bd_s, ct_s, ct_n, a11, a01, aB2, bitA, nlt, nle, neq, dlT, dlF, deT, deF, dqT, dqF, nN, inb, nsb, ndv, nrm, if_true, if_false, ite_true, ite_false, true_and, and_true, and_self, and_false, false_and, or_true, true_or, or_false, false_or, or_self, ↓reduceIte, eq_self, Nat.reduceAdd, Nat.reduceMul, Nat.reduceSub, Nat.reduceDiv, Nat.reduceMod, Nat.zero_add, Nat.mul_zero, not_true_eq_false, not_false_eq_true, up_T, up_F, wr_T, wr_F, ngE, ngE', ngL, ngL', ngQ, ngQ']
    · simp (disch := omega) only [n_M_stretch, e_M_stretch_0, e_M_stretch_1, e_M_stretch_2, e_M_stretch_3, e_M_stretch_4, e_M_stretch_5, e_M_stretch_6, e_M_stretch_7, e_M_stretch_8, e_M_stretch_9, e_M_stretch_10, s_M_in, lit, nad, nml, bd_s, ct_s, ct_n, a11, a01, aB2, bitA, nlt, nle, neq, dlT, dlF, deT, deF, dqT, dqF, nN, inb, nsb, ndv, nrm, if_true, if_false, ite_true, ite_false, true_and, and_true, and_self, and_false, false_and, or_true, true_or, or_false, false_or, or_self, ↓reduceIte, eq_self, Nat.reduceAdd, Nat.reduceMul, Nat.reduceSub, Nat.reduceDiv, Nat.reduceMod, Nat.zero_add, Nat.mul_zero, not_true_eq_false, not_false_eq_true, up_T, up_F, wr_T, wr_F, ngE, ngE', ngL, ngL', ngQ, ngQ', h1]
  obtain ⟨c', -, c1, c2⟩ := wof h1 (by decide) (by decide)
  subst c2
  by_cases h2 : c' / 10 = c' % 10
  · refine call_id (fun _ => -nI 1000000001) (fun A I _ _ _ _ => ?_) (fun A I _ _ _ _ => ?_)
    · simp (disch := omega) only [n_H_stretch, e_H_stretch_0, e_H_stretch_1, e_H_stretch_2, e_H_stretch_3, e_H_stretch_4, e_H_stretch_5, e_H_stretch_6, e_H_stretch_7, e_H_stretch_8, e_H_stretch_9, e_H_stretch_10, e_H_stretch_11, e_H_stretch_12, e_H_stretch_13, e_H_stretch_14, s_H_areTwoCairns, lit, nad, nml, bd_s, ct_s, ct_n, a11, a01, aB2, bitA, nlt, nle, neq, dlT, dlF, deT, deF, dqT, dqF, nN, inb, nsb, ndv, nrm, if_true, if_false, ite_true, ite_false, true_and, and_true, and_self, and_false, false_and, or_true, true_or, or_false, false_or, or_self, ↓reduceIte, eq_self, Nat.reduceAdd, Nat.reduceMul, Nat.reduceSub, Nat.reduceDiv, Nat.reduceMod, Nat.zero_add, Nat.mul_zero, not_true_eq_false, not_false_eq_true, up_T, up_F, wr_T, wr_F, ngE, ngE', ngL, ngL', ngQ, ngQ']
    · simp (disch := omega) only [n_M_stretch, e_M_stretch_0, e_M_stretch_1, e_M_stretch_2, e_M_stretch_3, e_M_stretch_4, e_M_stretch_5, e_M_stretch_6, e_M_stretch_7, e_M_stretch_8, e_M_stretch_9, e_M_stretch_10, s_M_in, lit, nad, nml, bd_s, ct_s, ct_n, a11, a01, aB2, bitA, nlt, nle, neq, dlT, dlF, deT, deF, dqT, dqF, nN, inb, nsb, ndv, nrm, if_true, if_false, ite_true, ite_false, true_and, and_true, and_self, and_false, false_and, or_true, true_or, or_false, false_or, or_self, ↓reduceIte, eq_self, Nat.reduceAdd, Nat.reduceMul, Nat.reduceSub, Nat.reduceDiv, Nat.reduceMod, Nat.zero_add, Nat.mul_zero, not_true_eq_false, not_false_eq_true, up_T, up_F, wr_T, wr_F, ngE, ngE', ngL, ngL', ngQ, ngQ', md10]
  by_cases h3 : nI 1 ≤ l ∧ l ≤ nI 99
  rotate_left
  · refine call_id (fun _ => -nI 1000000001) (fun A I _ _ _ _ => ?_) (fun A I _ _ _ _ => ?_)
    · simp (disch := omega) only [n_H_stretch, e_H_stretch_0, e_H_stretch_1, e_H_stretch_2, e_H_stretch_3, e_H_stretch_4, e_H_stretch_5, e_H_stretch_6, e_H_stretch_7, e_H_stretch_8, e_H_stretch_9, e_H_stretch_10, e_H_stretch_11, e_H_stretch_12, e_H_stretch_13, e_H_stretch_14, s_H_areTwoCairns, s_H_within, lit, nad, nml, bd_s, ct_s, ct_n, a11, a01, aB2, bitA, nlt, nle, neq, dlT, dlF, deT, deF, dqT, dqF, nN, inb, nsb, ndv, nrm, if_true, if_false, ite_true, ite_false, true_and, and_true, and_self, and_false, false_and, or_true, true_or, or_false, false_or, or_self, ↓reduceIte, eq_self, Nat.reduceAdd, Nat.reduceMul, Nat.reduceSub, Nat.reduceDiv, Nat.reduceMod, Nat.zero_add, Nat.mul_zero, not_true_eq_false, not_false_eq_true, up_T, up_F, wr_T, wr_F, ngE, ngE', ngL, ngL', ngQ, ngQ', h3]
    · simp (disch := omega) only [n_M_stretch, e_M_stretch_0, e_M_stretch_1, e_M_stretch_2, e_M_stretch_3, e_M_stretch_4, e_M_stretch_5, e_M_stretch_6, e_M_stretch_7, e_M_stretch_8, e_M_stretch_9, e_M_stretch_10, s_M_in, lit, nad, nml, bd_s, ct_s, ct_n, a11, a01, aB2, bitA, nlt, nle, neq, dlT, dlF, deT, deF, dqT, dqF, nN, inb, nsb, ndv, nrm, if_true, if_false, ite_true, ite_false, true_and, and_true, and_self, and_false, false_and, or_true, true_or, or_false, false_or, or_self, ↓reduceIte, eq_self, Nat.reduceAdd, Nat.reduceMul, Nat.reduceSub, Nat.reduceDiv, Nat.reduceMod, Nat.zero_add, Nat.mul_zero, not_true_eq_false, not_false_eq_true, up_T, up_F, wr_T, wr_F, ngE, ngE', ngL, ngL', ngQ, ngQ', md10, h3]
  obtain ⟨l', l0, l1, l2⟩ := wof h3 (by decide) (by decide)
  subst l2
  by_cases h4 : nI 0 ≤ gr ∧ gr ≤ nI 99
  rotate_left
  · refine call_id (fun _ => -nI 1000000001) (fun A I _ _ _ _ => ?_) (fun A I _ _ _ _ => ?_)
    · simp (disch := omega) only [n_H_stretch, e_H_stretch_0, e_H_stretch_1, e_H_stretch_2, e_H_stretch_3, e_H_stretch_4, e_H_stretch_5, e_H_stretch_6, e_H_stretch_7, e_H_stretch_8, e_H_stretch_9, e_H_stretch_10, e_H_stretch_11, e_H_stretch_12, e_H_stretch_13, e_H_stretch_14, s_H_areTwoCairns, s_H_within, lit, nad, nml, bd_s, ct_s, ct_n, a11, a01, aB2, bitA, nlt, nle, neq, dlT, dlF, deT, deF, dqT, dqF, nN, inb, nsb, ndv, nrm, if_true, if_false, ite_true, ite_false, true_and, and_true, and_self, and_false, false_and, or_true, true_or, or_false, false_or, or_self, ↓reduceIte, eq_self, Nat.reduceAdd, Nat.reduceMul, Nat.reduceSub, Nat.reduceDiv, Nat.reduceMod, Nat.zero_add, Nat.mul_zero, not_true_eq_false, not_false_eq_true, up_T, up_F, wr_T, wr_F, ngE, ngE', ngL, ngL', ngQ, ngQ', h4]
    · simp (disch := omega) only [n_M_stretch, e_M_stretch_0, e_M_stretch_1, e_M_stretch_2, e_M_stretch_3, e_M_stretch_4, e_M_stretch_5, e_M_stretch_6, e_M_stretch_7, e_M_stretch_8, e_M_stretch_9, e_M_stretch_10, s_M_in, lit, nad, nml, bd_s, ct_s, ct_n, a11, a01, aB2, bitA, nlt, nle, neq, dlT, dlF, deT, deF, dqT, dqF, nN, inb, nsb, ndv, nrm, if_true, if_false, ite_true, ite_false, true_and, and_true, and_self, and_false, false_and, or_true, true_or, or_false, false_or, or_self, ↓reduceIte, eq_self, Nat.reduceAdd, Nat.reduceMul, Nat.reduceSub, Nat.reduceDiv, Nat.reduceMod, Nat.zero_add, Nat.mul_zero, not_true_eq_false, not_false_eq_true, up_T, up_F, wr_T, wr_F, ngE, ngE', ngL, ngL', ngQ, ngQ', md10, h4]
  obtain ⟨g', -, g1, g2⟩ := wof h4 (by decide) (by decide)
  subst g2
  by_cases h5 : 2 < g' % 10
  · refine call_id (fun _ => -nI 1000000001) (fun A I _ _ _ _ => ?_) (fun A I _ _ _ _ => ?_)
    · simp (disch := omega) only [n_H_stretch, e_H_stretch_0, e_H_stretch_1, e_H_stretch_2, e_H_stretch_3, e_H_stretch_4, e_H_stretch_5, e_H_stretch_6, e_H_stretch_7, e_H_stretch_8, e_H_stretch_9, e_H_stretch_10, e_H_stretch_11, e_H_stretch_12, e_H_stretch_13, e_H_stretch_14, s_H_areTwoCairns, s_H_within, lit, nad, nml, bd_s, ct_s, ct_n, a11, a01, aB2, bitA, nlt, nle, neq, dlT, dlF, deT, deF, dqT, dqF, nN, inb, nsb, ndv, nrm, if_true, if_false, ite_true, ite_false, true_and, and_true, and_self, and_false, false_and, or_true, true_or, or_false, false_or, or_self, ↓reduceIte, eq_self, Nat.reduceAdd, Nat.reduceMul, Nat.reduceSub, Nat.reduceDiv, Nat.reduceMod, Nat.zero_add, Nat.mul_zero, not_true_eq_false, not_false_eq_true, up_T, up_F, wr_T, wr_F, ngE, ngE', ngL, ngL', ngQ, ngQ', md10]
    · simp (disch := omega) only [n_M_stretch, e_M_stretch_0, e_M_stretch_1, e_M_stretch_2, e_M_stretch_3, e_M_stretch_4, e_M_stretch_5, e_M_stretch_6, e_M_stretch_7, e_M_stretch_8, e_M_stretch_9, e_M_stretch_10, s_M_in, lit, nad, nml, bd_s, ct_s, ct_n, a11, a01, aB2, bitA, nlt, nle, neq, dlT, dlF, deT, deF, dqT, dqF, nN, inb, nsb, ndv, nrm, if_true, if_false, ite_true, ite_false, true_and, and_true, and_self, and_false, false_and, or_true, true_or, or_false, false_or, or_self, ↓reduceIte, eq_self, Nat.reduceAdd, Nat.reduceMul, Nat.reduceSub, Nat.reduceDiv, Nat.reduceMod, Nat.zero_add, Nat.mul_zero, not_true_eq_false, not_false_eq_true, up_T, up_F, wr_T, wr_F, ngE, ngE', ngL, ngL', ngQ, ngQ', md10]
  by_cases h6 : nI 0 ≤ o ∧ o ≤ nI 3
  rotate_left
  · refine call_id (fun _ => -nI 1000000001) (fun A I _ _ _ _ => ?_) (fun A I _ _ _ _ => ?_)
    · simp (disch := omega) only [n_H_stretch, e_H_stretch_0, e_H_stretch_1, e_H_stretch_2, e_H_stretch_3, e_H_stretch_4, e_H_stretch_5, e_H_stretch_6, e_H_stretch_7, e_H_stretch_8, e_H_stretch_9, e_H_stretch_10, e_H_stretch_11, e_H_stretch_12, e_H_stretch_13, e_H_stretch_14, s_H_areTwoCairns, s_H_within, lit, nad, nml, bd_s, ct_s, ct_n, a11, a01, aB2, bitA, nlt, nle, neq, dlT, dlF, deT, deF, dqT, dqF, nN, inb, nsb, ndv, nrm, if_true, if_false, ite_true, ite_false, true_and, and_true, and_self, and_false, false_and, or_true, true_or, or_false, false_or, or_self, ↓reduceIte, eq_self, Nat.reduceAdd, Nat.reduceMul, Nat.reduceSub, Nat.reduceDiv, Nat.reduceMod, Nat.zero_add, Nat.mul_zero, not_true_eq_false, not_false_eq_true, up_T, up_F, wr_T, wr_F, ngE, ngE', ngL, ngL', ngQ, ngQ', md10, h6]
    · simp (disch := omega) only [n_M_stretch, e_M_stretch_0, e_M_stretch_1, e_M_stretch_2, e_M_stretch_3, e_M_stretch_4, e_M_stretch_5, e_M_stretch_6, e_M_stretch_7, e_M_stretch_8, e_M_stretch_9, e_M_stretch_10, s_M_in, lit, nad, nml, bd_s, ct_s, ct_n, a11, a01, aB2, bitA, nlt, nle, neq, dlT, dlF, deT, deF, dqT, dqF, nN, inb, nsb, ndv, nrm, if_true, if_false, ite_true, ite_false, true_and, and_true, and_self, and_false, false_and, or_true, true_or, or_false, false_or, or_self, ↓reduceIte, eq_self, Nat.reduceAdd, Nat.reduceMul, Nat.reduceSub, Nat.reduceDiv, Nat.reduceMod, Nat.zero_add, Nat.mul_zero, not_true_eq_false, not_false_eq_true, up_T, up_F, wr_T, wr_F, ngE, ngE', ngL, ngL', ngQ, ngQ', md10, h6]
  obtain ⟨o', -, o1, o2⟩ := wof h6 (by decide) (by decide)
  subst o2
  refine call_hill (fun A => if A 0 0 0 < 16 then nI (A 0 0 0) else -nI 1000000003) (fun A => if A 0 0 0 < 16 then strA A (nwF c' l' g' o') else A) (fun A I hC F g _ => ?_) (fun A I hR g _ _ => ?_) (fun A g h => ?_)
  · have hn := hC.1.1
    have hb := g.1.1
    by_cases e : A 0 0 0 < 16
    · simp only [if_pos e]
      obtain ⟨I1, b1, b2, b3⟩ := s_Stretch_begin (d + 198) (A 0 0 0) c' l' g' o' I c1 g1
      refine ⟨mm_up I1 3 0 1 (nI (A 0 0 0 + 1)), ?_, RepC_str hC (up_s _ _ _ _ _) (StC_c b2 (by funext j; exact up_F (by omega))) (fun k i j q1 q2 => by rw [up_F q1, b3 k i q2]), Fix_up (Fix_o F (fun r j _ => by rw [b3 7 r (by omega)])) (by omega), fr_up (fun k i q => b3 k i (fun z => q (by unfold dC hc; omega))) (by unfold dC hc; omega)⟩
      simp (disch := omega) only [n_H_stretch, e_H_stretch_0, e_H_stretch_1, e_H_stretch_2, e_H_stretch_3, e_H_stretch_4, e_H_stretch_5, e_H_stretch_6, e_H_stretch_7, e_H_stretch_8, e_H_stretch_9, e_H_stretch_10, e_H_stretch_11, e_H_stretch_12, e_H_stretch_13, e_H_stretch_14, s_H_areTwoCairns, s_H_within, lit, nad, nml, bd_s, ct_s, ct_n, a11, a01, aB2, bitA, nlt, nle, neq, dlT, dlF, deT, deF, dqT, dqF, nN, inb, nsb, ndv, nrm, if_true, if_false, ite_true, ite_false, true_and, and_true, and_self, and_false, false_and, or_true, true_or, or_false, false_or, or_self, ↓reduceIte, eq_self, Nat.reduceAdd, Nat.reduceMul, Nat.reduceSub, Nat.reduceDiv, Nat.reduceMod, Nat.zero_add, Nat.mul_zero, not_true_eq_false, not_false_eq_true, up_T, up_F, wr_T, wr_F, ngE, ngE', ngL, ngL', ngQ, ngQ', md10, hn, b1]
    · simp only [if_neg e]
      refine ⟨I, ?_, hC, F, fr_rf _ _⟩
      simp (disch := omega) only [n_H_stretch, e_H_stretch_0, e_H_stretch_1, e_H_stretch_2, e_H_stretch_3, e_H_stretch_4, e_H_stretch_5, e_H_stretch_6, e_H_stretch_7, e_H_stretch_8, e_H_stretch_9, e_H_stretch_10, e_H_stretch_11, e_H_stretch_12, e_H_stretch_13, e_H_stretch_14, s_H_areTwoCairns, s_H_within, lit, nad, nml, bd_s, ct_s, ct_n, a11, a01, aB2, bitA, nlt, nle, neq, dlT, dlF, deT, deF, dqT, dqF, nN, inb, nsb, ndv, nrm, if_true, if_false, ite_true, ite_false, true_and, and_true, and_self, and_false, false_and, or_true, true_or, or_false, false_or, or_self, ↓reduceIte, eq_self, Nat.reduceAdd, Nat.reduceMul, Nat.reduceSub, Nat.reduceDiv, Nat.reduceMod, Nat.zero_add, Nat.mul_zero, not_true_eq_false, not_false_eq_true, up_T, up_F, wr_T, wr_F, ngE, ngE', ngL, ngL', ngQ, ngQ', md10, hn]
  · have hn : I 47 0 0 = nI (A 0 0 0) := hR.1 0 (by decide)
    have hb := g.1.1
    by_cases e : A 0 0 0 < 16
    · simp only [if_pos e]
      have hx := x_M_stretch (d + 199) c' l' g' o' _ I hn e c1 g1
      have hs : Sn (d + 200) q_M_stretch [.inr (12, 0), .inl (nI c'), .inl (nI l'), .inl (nI g'), .inl (nI o')] I = _ := Eq.trans (by simp (disch := omega) only [n_M_stretch, e_M_stretch_0, e_M_stretch_1, e_M_stretch_2, e_M_stretch_3, e_M_stretch_4, e_M_stretch_5, e_M_stretch_6, e_M_stretch_7, e_M_stretch_8, e_M_stretch_9, e_M_stretch_10, e_M_stretch_11, s_M_in, lit, nad, nml, bd_s, ct_s, ct_n, a11, a01, aB2, bitA, nlt, nle, neq, dlT, dlF, deT, deF, dqT, dqF, nN, inb, nsb, ndv, nrm, if_true, if_false, ite_true, ite_false, true_and, and_true, and_self, and_false, false_and, or_true, true_or, or_false, false_or, or_self, ↓reduceIte, eq_self, Nat.reduceAdd, Nat.reduceMul, Nat.reduceSub, Nat.reduceDiv, Nat.reduceMod, Nat.zero_add, Nat.mul_zero, not_true_eq_false, not_false_eq_true, up_T, up_F, wr_T, wr_F, ngE, ngE', ngL, ngL', ngQ, ngQ', md10, hn]) hx
      refine ⟨_, hs, RepR_str hR g e (up_s _ _ _ _ _) (fun c hc => ?_) (fun j j1 j2 => ?_), ?_, ?_⟩
      · rcases c9 hc with q | q | q | q | q | q | q | q | q <;> subst q <;> simp (disch := omega) only [up_T, up_F] <;> rfl
      · simp (disch := omega) only [up_F]
      · exact fr_up (fr_up (fr_up (fr_up (fr_up (fr_up (fr_up (fr_up (fr_up (fr_up (fr_rf _ _) (by unfold dM'; omega)) (by unfold dM'; omega)) (by unfold dM'; omega)) (by unfold dM'; omega)) (by unfold dM'; omega)) (by unfold dM'; omega)) (by unfold dM'; omega)) (by unfold dM'; omega)) (by unfold dM'; omega)) (by unfold dM'; omega)
      · exact k12_of (by funext i j'; simp (disch := omega) only [up_F])
    · simp only [if_neg e]
      refine ⟨I, ?_, hR, fr_rf _ _, k12_rf _⟩
      simp (disch := omega) only [n_M_stretch, e_M_stretch_0, e_M_stretch_1, e_M_stretch_2, e_M_stretch_3, e_M_stretch_4, e_M_stretch_5, e_M_stretch_6, e_M_stretch_7, e_M_stretch_8, e_M_stretch_9, e_M_stretch_10, e_M_stretch_11, e_M_stretch_12, s_M_in, lit, nad, nml, bd_s, ct_s, ct_n, a11, a01, aB2, bitA, nlt, nle, neq, dlT, dlF, deT, deF, dqT, dqF, nN, inb, nsb, ndv, nrm, if_true, if_false, ite_true, ite_false, true_and, and_true, and_self, and_false, false_and, or_true, true_or, or_false, false_or, or_self, ↓reduceIte, eq_self, Nat.reduceAdd, Nat.reduceMul, Nat.reduceSub, Nat.reduceDiv, Nat.reduceMod, Nat.zero_add, Nat.mul_zero, not_true_eq_false, not_false_eq_true, up_T, up_F, wr_T, wr_F, ngE, ngE', ngL, ngL', ngQ, ngQ', md10, hn]
  · by_cases e : A 0 0 0 < 16
    · simp only [if_pos e]
      refine ⟨Good_str g e ?_, by rw [strA_0 (by decide)]; exact h, strA_0 (by decide)⟩
      show StG (nwF c' l' g' o')
      unfold StG
      refine ⟨?_, ?_, h2, l0, l1, ?_, ?_, ?_, ?_, o1, ?_, ?_⟩
      · show c' / 10 ≤ 9; omega
      · show c' % 10 ≤ 9; omega
      · show g' / 10 ≤ 9; omega
      · show g' % 10 ≤ 2; omega
      · show 1 ≤ 10; omega
      · show 10 ≤ 9999; omega
      · show 0 ≤ 1; omega
      · show 0 ≤ 4; omega
    · simp only [if_neg e]
      exact ⟨g, h, trivial⟩
/-! years -/
noncomputable def yrs (A : mm_A) : Nat → mm_A
  | 0 => A
  | k + 1 => yrA (yrs A k)
theorem yrs_c {A : mm_A} {c : Nat} (h : c ≠ 10) (h2 : c ≠ 11) : ∀ k, yrs A k 0 0 c = A 0 0 c
  | 0 => rfl
  | k + 1 => by rw [yrs, yrA_c h h2, yrs_c h h2 k]
theorem yrs_y {A : mm_A} : ∀ k, yrs A k 0 0 11 = A 0 0 11 + k
  | 0 => rfl
  | k + 1 => by rw [yrs, yrA_y, yrs_y k]; omega
theorem yrs_g {A : mm_A} (g : Good A) : ∀ k, A 0 0 11 + k ≤ 300 → Good (yrs A k)
  | 0, _ => g
  | k + 1, h => yrA_g (yrs_g g k (by omega)) (by rw [yrs_y]; omega)
theorem fP0 {h k i : Nat} (q : fP h k i) (hh : h = 0 ∨ h = 2) : dC k i := by
  rcases q with q | q
  · rcases hh with e | e <;> subst e
    · exact Or.inl q
    · exact Or.inr (Or.inl q)
  · unfold wk5 at q
    unfold dC
    omega
theorem gPM {k i : Nat} (q : gP k i) : dM' k i := by unfold gP at q; unfold dM'; omega
theorem Ok_run (d : Nat) (t : Int32) : Ok (d + 200) q_H_run q_M_run [.inl t] := by
  by_cases h1 : nI 1 ≤ t ∧ t ≤ nI 20
  rotate_left
  · refine call_id (fun _ => -nI 1000000001) (fun A I _ _ _ _ => ?_) (fun A I _ _ _ _ => ?_)
    · simp (disch := omega) only [n_H_run, e_H_run_0, e_H_run_1, e_H_run_2, e_H_run_3, e_H_run_4, e_H_run_5, e_H_run_6, e_H_run_7, e_H_run_8, e_H_run_9, s_H_within, lit, nad, nml, bd_s, ct_s, ct_n, a11, a01, aB2, bitA, nlt, nle, neq, dlT, dlF, deT, deF, dqT, dqF, nN, inb, nsb, ndv, nrm, if_true, if_false, ite_true, ite_false, true_and, and_true, and_self, and_false, false_and, or_true, true_or, or_false, false_or, or_self, ↓reduceIte, eq_self, Nat.reduceAdd, Nat.reduceMul, Nat.reduceSub, Nat.reduceDiv, Nat.reduceMod, Nat.zero_add, Nat.mul_zero, not_true_eq_false, not_false_eq_true, up_T, up_F, wr_T, wr_F, ngE, ngE', ngL, ngL', ngQ, ngQ', h1]
    · simp (disch := omega) only [n_M_run, e_M_run_0, e_M_run_1, e_M_run_2, e_M_run_3, e_M_run_4, e_M_run_5, e_M_run_6, e_M_run_7, e_M_run_8, e_M_run_9, s_M_in, lit, nad, nml, bd_s, ct_s, ct_n, a11, a01, aB2, bitA, nlt, nle, neq, dlT, dlF, deT, deF, dqT, dqF, nN, inb, nsb, ndv, nrm, if_true, if_false, ite_true, ite_false, true_and, and_true, and_self, and_false, false_and, or_true, true_or, or_false, false_or, or_self, ↓reduceIte, eq_self, Nat.reduceAdd, Nat.reduceMul, Nat.reduceSub, Nat.reduceDiv, Nat.reduceMod, Nat.zero_add, Nat.mul_zero, not_true_eq_false, not_false_eq_true, up_T, up_F, wr_T, wr_F, ngE, ngE', ngL, ngL', ngQ, ngQ', h1]
  obtain ⟨k, k0, k1, k2⟩ := wof h1 (by decide) (by decide)
  subst k2
  refine call_hill (fun A => if A 0 0 11 + k ≤ 200 then nI (A 0 0 11 + k) else -nI 1000000003) (fun A => if A 0 0 11 + k ≤ 200 then yrs A k else A) (fun A I hC F g hy => ?_) (fun A I hR g hy h8 => ?_) (fun A g h => ?_)
  · have hyr : I 3 0 4 = nI (A 0 0 11) := hC.1.2.2.2.2
    by_cases e : A 0 0 11 + k ≤ 200
    · simp only [if_pos e]
      have s0 : Sn (d + 200) q_H_run [.inr (11, 0), .inl (nI k)] I = Rn (d + 199) q_H_run 6 [some (.inr (11, 0)), some (.inl (nI k)), some (.inl (nI 0))] [] I := by
        simp (disch := omega) only [n_H_run, e_H_run_0, e_H_run_1, e_H_run_3, e_H_run_5, s_H_within, lit, nad, nml, bd_s, ct_s, ct_n, a11, a01, aB2, bitA, nlt, nle, neq, dlT, dlF, deT, deF, dqT, dqF, nN, inb, nsb, ndv, nrm, if_true, if_false, ite_true, ite_false, true_and, and_true, and_self, and_false, false_and, or_true, true_or, or_false, false_or, or_self, ↓reduceIte, eq_self, Nat.reduceAdd, Nat.reduceMul, Nat.reduceSub, Nat.reduceDiv, Nat.reduceMod, Nat.zero_add, Nat.mul_zero, not_true_eq_false, not_false_eq_true, up_T, up_F, wr_T, wr_F, ngE, ngE', ngL, ngL', ngQ, ngQ', hyr]
      rw [s0]
      refine lpX (n := k) (σ := mm_I) (fun i s => Rn (d + 199) q_H_run 6 [some (.inr (11, 0)), some (.inl (nI k)), some (.inl (nI i))] [] s) (fun i s => RepC 0 (yrs A i) s ∧ Fix s ∧ fr dC I s) (fun q => ∃ I1, q = some (some (.inl (nI (A 0 0 11 + k))), (sh0, I1)) ∧ RepC 0 (yrs A k) I1 ∧ Fix I1 ∧ fr dC I I1) ?_ ?_ 0 I (Nat.zero_le _) ⟨hC, F, fr_rf _ _⟩
      · rintro i J hi ⟨j1, j2, j3⟩
        obtain ⟨J', p1, p2, p3, p4⟩ := s_Hills_passYear (d + 194) 0 (yrs A i) J j1 j2 (yrs_g g i (by omega)) (by decide)
        refine Or.inr ⟨J', ⟨p2, p3, fr_tr j3 (fr_mono p4 (fun k i q => fP0 q (Or.inl rfl)))⟩, ?_⟩
        simp (disch := omega) only [e_H_run_7, e_H_run_8, e_H_run_6 (x2 := nI i), lit, nad, nml, bd_s, ct_s, ct_n, a11, a01, aB2, bitA, nlt, nle, neq, dlT, dlF, deT, deF, dqT, dqF, nN, inb, nsb, ndv, nrm, if_true, if_false, ite_true, ite_false, true_and, and_true, and_self, and_false, false_and, or_true, true_or, or_false, false_or, or_self, ↓reduceIte, eq_self, Nat.reduceAdd, Nat.reduceMul, Nat.reduceSub, Nat.reduceDiv, Nat.reduceMod, Nat.zero_add, Nat.mul_zero, not_true_eq_false, not_false_eq_true, up_T, up_F, wr_T, wr_F, ngE, ngE', ngL, ngL', ngQ, ngQ', p1]
      · rintro J ⟨j1, j2, j3⟩
        have hyr : J 3 0 4 = nI (A 0 0 11 + k) := by rw [← yrs_y]; exact j1.1.2.2.2.2
        exact ⟨J, by simp (disch := omega) only [e_H_run_6, e_H_run_9, lit, nad, nml, bd_s, ct_s, ct_n, a11, a01, aB2, bitA, nlt, nle, neq, dlT, dlF, deT, deF, dqT, dqF, nN, inb, nsb, ndv, nrm, if_true, if_false, ite_true, ite_false, true_and, and_true, and_self, and_false, false_and, or_true, true_or, or_false, false_or, or_self, ↓reduceIte, eq_self, Nat.reduceAdd, Nat.reduceMul, Nat.reduceSub, Nat.reduceDiv, Nat.reduceMod, Nat.zero_add, Nat.mul_zero, not_true_eq_false, not_false_eq_true, up_T, up_F, wr_T, wr_F, ngE, ngE', ngL, ngL', ngQ, ngQ', hyr], j1, j2, j3⟩
    · simp only [if_neg e]
      exact ⟨I, by simp (disch := omega) only [n_H_run, e_H_run_0, e_H_run_1, e_H_run_3, e_H_run_4, s_H_within, lit, nad, nml, bd_s, ct_s, ct_n, a11, a01, aB2, bitA, nlt, nle, neq, dlT, dlF, deT, deF, dqT, dqF, nN, inb, nsb, ndv, nrm, if_true, if_false, ite_true, ite_false, true_and, and_true, and_self, and_false, false_and, or_true, true_or, or_false, false_or, or_self, ↓reduceIte, eq_self, Nat.reduceAdd, Nat.reduceMul, Nat.reduceSub, Nat.reduceDiv, Nat.reduceMod, Nat.zero_add, Nat.mul_zero, not_true_eq_false, not_false_eq_true, up_T, up_F, wr_T, wr_F, ngE, ngE', ngL, ngL', ngQ, ngQ', hyr], hC, F, fr_rf _ _⟩
  · have hyr : I 47 0 11 = nI (A 0 0 11) := hR.1 11 (by decide)
    by_cases e : A 0 0 11 + k ≤ 200
    · simp only [if_pos e]
      have s0 : Sn (d + 200) q_M_run [.inr (12, 0), .inl (nI k)] I = Rn (d + 199) q_M_run 6 [some (.inr (12, 0)), some (.inl (nI k)), some (.inl (nI 0))] [] I := by
        simp (disch := omega) only [n_M_run, e_M_run_0, e_M_run_1, e_M_run_3, e_M_run_5, s_M_in, lit, nad, nml, bd_s, ct_s, ct_n, a11, a01, aB2, bitA, nlt, nle, neq, dlT, dlF, deT, deF, dqT, dqF, nN, inb, nsb, ndv, nrm, if_true, if_false, ite_true, ite_false, true_and, and_true, and_self, and_false, false_and, or_true, true_or, or_false, false_or, or_self, ↓reduceIte, eq_self, Nat.reduceAdd, Nat.reduceMul, Nat.reduceSub, Nat.reduceDiv, Nat.reduceMod, Nat.zero_add, Nat.mul_zero, not_true_eq_false, not_false_eq_true, up_T, up_F, wr_T, wr_F, ngE, ngE', ngL, ngL', ngQ, ngQ', hyr]
      rw [s0]
      refine lpX (n := k) (σ := mm_I) (fun i s => Rn (d + 199) q_M_run 6 [some (.inr (12, 0)), some (.inl (nI k)), some (.inl (nI i))] [] s) (fun i s => RepR 0 (yrs A i) s ∧ fr dM' I s ∧ k12 I s) (fun q => ∃ I1, q = some (some (.inl (nI (A 0 0 11 + k))), (sh0, I1)) ∧ RepR 0 (yrs A k) I1 ∧ fr dM' I I1 ∧ k12 I I1) ?_ ?_ 0 I (Nat.zero_le _) ⟨hR, fr_rf _ _, k12_rf _⟩
      · rintro i J hi ⟨j1, j2, j3⟩
        obtain ⟨J', p1, p2, p3, p4⟩ := s_M_aYear (d + 193) (yrs A i) J j1 (yrs_g g i (by omega)) (by rw [j3.2.1]; exact h8)
        refine Or.inr ⟨J', ⟨p2, fr_tr j2 (fr_mono p4 (fun k i q => gPM q)), k12_tr j3 (k12_ex p3 (by decide))⟩, ?_⟩
        simp (disch := omega) only [e_M_run_7, e_M_run_8, e_M_run_6 (x2 := nI i), lit, nad, nml, bd_s, ct_s, ct_n, a11, a01, aB2, bitA, nlt, nle, neq, dlT, dlF, deT, deF, dqT, dqF, nN, inb, nsb, ndv, nrm, if_true, if_false, ite_true, ite_false, true_and, and_true, and_self, and_false, false_and, or_true, true_or, or_false, false_or, or_self, ↓reduceIte, eq_self, Nat.reduceAdd, Nat.reduceMul, Nat.reduceSub, Nat.reduceDiv, Nat.reduceMod, Nat.zero_add, Nat.mul_zero, not_true_eq_false, not_false_eq_true, up_T, up_F, wr_T, wr_F, ngE, ngE', ngL, ngL', ngQ, ngQ', p1]
      · rintro J ⟨j1, j2, j3⟩
        have hyr : J 47 0 11 = nI (A 0 0 11 + k) := by rw [← yrs_y]; exact j1.1 11 (by decide)
        exact ⟨J, by simp (disch := omega) only [e_M_run_6, e_M_run_9, lit, nad, nml, bd_s, ct_s, ct_n, a11, a01, aB2, bitA, nlt, nle, neq, dlT, dlF, deT, deF, dqT, dqF, nN, inb, nsb, ndv, nrm, if_true, if_false, ite_true, ite_false, true_and, and_true, and_self, and_false, false_and, or_true, true_or, or_false, false_or, or_self, ↓reduceIte, eq_self, Nat.reduceAdd, Nat.reduceMul, Nat.reduceSub, Nat.reduceDiv, Nat.reduceMod, Nat.zero_add, Nat.mul_zero, not_true_eq_false, not_false_eq_true, up_T, up_F, wr_T, wr_F, ngE, ngE', ngL, ngL', ngQ, ngQ', hyr], j1, j2, j3⟩
    · simp only [if_neg e]
      exact ⟨I, by simp (disch := omega) only [n_M_run, e_M_run_0, e_M_run_1, e_M_run_3, e_M_run_4, s_M_in, lit, nad, nml, bd_s, ct_s, ct_n, a11, a01, aB2, bitA, nlt, nle, neq, dlT, dlF, deT, deF, dqT, dqF, nN, inb, nsb, ndv, nrm, if_true, if_false, ite_true, ite_false, true_and, and_true, and_self, and_false, false_and, or_true, true_or, or_false, false_or, or_self, ↓reduceIte, eq_self, Nat.reduceAdd, Nat.reduceMul, Nat.reduceSub, Nat.reduceDiv, Nat.reduceMod, Nat.zero_add, Nat.mul_zero, not_true_eq_false, not_false_eq_true, up_T, up_F, wr_T, wr_F, ngE, ngE', ngL, ngL', ngQ, ngQ', hyr], hR, fr_rf _ _, k12_rf _⟩
  · by_cases e : A 0 0 11 + k ≤ 200
    · simp only [if_pos e]
      exact ⟨yrs_g g k (by omega), by rw [yrs_y]; omega, yrs_c (by decide) (by decide) k⟩
    · simp only [if_neg e]
      exact ⟨g, h, trivial⟩
noncomputable def wdS (A : mm_A) : Nat := sm (fun p => A 1 p 5) (A 0 0 0)
theorem Ok_lost (d : Nat) (t : Int32) : Ok (d + 200) q_H_lost q_M_lost [.inl t] := by
  by_cases h1 : nI 1 ≤ t ∧ t ≤ nI 20
  rotate_left
  · refine call_id (fun _ => -nI 1000000001) (fun A I _ _ _ _ => ?_) (fun A I _ _ _ _ => ?_)
    · simp (disch := omega) only [n_H_lost, e_H_lost_0, e_H_lost_1, e_H_lost_2, e_H_lost_3, e_H_lost_4, e_H_lost_5, e_H_lost_6, e_H_lost_7, e_H_lost_8, e_H_lost_9, e_H_lost_10, e_H_lost_11, e_H_lost_12, s_H_within, lit, nad, nml, bd_s, ct_s, ct_n, a11, a01, aB2, bitA, nlt, nle, neq, dlT, dlF, deT, deF, dqT, dqF, nN, inb, nsb, ndv, nrm, if_true, if_false, ite_true, ite_false, true_and, and_true, and_self, and_false, false_and, or_true, true_or, or_false, false_or, or_self, ↓reduceIte, eq_self, Nat.reduceAdd, Nat.reduceMul, Nat.reduceSub, Nat.reduceDiv, Nat.reduceMod, Nat.zero_add, Nat.mul_zero, not_true_eq_false, not_false_eq_true, up_T, up_F, wr_T, wr_F, ngE, ngE', ngL, ngL', ngQ, ngQ', h1]
    · simp (disch := omega) only [n_M_lost, e_M_lost_0, e_M_lost_1, e_M_lost_2, e_M_lost_3, e_M_lost_4, e_M_lost_5, e_M_lost_6, e_M_lost_7, e_M_lost_8, e_M_lost_9, e_M_lost_10, e_M_lost_11, e_M_lost_12, e_M_lost_13, s_M_in, lit, nad, nml, bd_s, ct_s, ct_n, a11, a01, aB2, bitA, nlt, nle, neq, dlT, dlF, deT, deF, dqT, dqF, nN, inb, nsb, ndv, nrm, if_true, if_false, ite_true, ite_false, true_and, and_true, and_self, and_false, false_and, or_true, true_or, or_false, false_or, or_self, ↓reduceIte, eq_self, Nat.reduceAdd, Nat.reduceMul, Nat.reduceSub, Nat.reduceDiv, Nat.reduceMod, Nat.zero_add, Nat.mul_zero, not_true_eq_false, not_false_eq_true, up_T, up_F, wr_T, wr_F, ngE, ngE', ngL, ngL', ngQ, ngQ', h1]
  obtain ⟨k, k0, k1, k2⟩ := wof h1 (by decide) (by decide)
  subst k2
  refine call_hill (fun A => if A 0 0 11 + k ≤ 200 then nI (wdS (yrs A k)) - nI (wdS A) else -nI 1000000003) (fun A => A) (fun A I hC F g hy => ?_) (fun A I hR g hy h8 => ?_) (fun A g h => ⟨g, h, rfl⟩)
  · have hyr : I 3 0 4 = nI (A 0 0 11) := hC.1.2.2.2.2
    by_cases e : A 0 0 11 + k ≤ 200
    · simp only [if_pos e]
      obtain ⟨I1, b1, b2, b3, b4⟩ := s_Hills_become (d + 197) 2 0 A I hC F g (by decide) (by decide) (by decide)
      have f1 : fr dC I I1 := fr_mono b4 (fun k i q => Or.inr (Or.inl q))
      have hC1 : RepC 0 A I1 := RepC_fr hC g (fun k i q => b4 k i (hc_dis (by decide) q))
      have s0 : Sn (d + 200) q_H_lost [.inr (11, 0), .inl (nI k)] I = Rn (d + 199) q_H_lost 7 [some (.inr (11, 0)), some (.inl (nI k)), some (.inl (nI 0))] [] I1 := by
        simp (disch := omega) only [n_H_lost, e_H_lost_0, e_H_lost_1, e_H_lost_3, e_H_lost_5, e_H_lost_6, s_H_within, lit, nad, nml, bd_s, ct_s, ct_n, a11, a01, aB2, bitA, nlt, nle, neq, dlT, dlF, deT, deF, dqT, dqF, nN, inb, nsb, ndv, nrm, if_true, if_false, ite_true, ite_false, true_and, and_true, and_self, and_false, false_and, or_true, true_or, or_false, false_or, or_self, ↓reduceIte, eq_self, Nat.reduceAdd, Nat.reduceMul, Nat.reduceSub, Nat.reduceDiv, Nat.reduceMod, Nat.zero_add, Nat.mul_zero, not_true_eq_false, not_false_eq_true, up_T, up_F, wr_T, wr_F, ngE, ngE', ngL, ngL', ngQ, ngQ', hyr, b1]
      rw [s0]
      refine lpX (n := k) (σ := mm_I) (fun i s => Rn (d + 199) q_H_lost 7 [some (.inr (11, 0)), some (.inl (nI k)), some (.inl (nI i))] [] s) (fun i s => RepC 2 (yrs A i) s ∧ RepC 0 A s ∧ Fix s ∧ fr dC I s) (fun q => ∃ I1, q = some (some (.inl (nI (wdS (yrs A k)) - nI (wdS A))), (sh0, I1)) ∧ RepC 0 A I1 ∧ Fix I1 ∧ fr dC I I1) ?_ ?_ 0 I1 (Nat.zero_le _) ⟨b2, hC1, b3, f1⟩
      · rintro i J hi ⟨j1, j1', j2, j3⟩
        obtain ⟨J', p1, p2, p3, p4⟩ := s_Hills_passYear (d + 194) 2 (yrs A i) J j1 j2 (yrs_g g i (by omega)) (by decide)
        refine Or.inr ⟨J', ⟨p2, RepC_fr j1' g (fun k i q => p4 k i (fun z => ?_)), p3, fr_tr j3 (fr_mono p4 (fun k i q => fP0 q (Or.inr rfl)))⟩, ?_⟩
        · rcases z with z | z
          · exact hc_dis (by decide) q z
          · unfold wk5 at z; unfold hc at q; omega
        · simp (disch := omega) only [e_H_lost_8, e_H_lost_9, e_H_lost_7 (x2 := nI i), lit, nad, nml, bd_s, ct_s, ct_n, a11, a01, aB2, bitA, nlt, nle, neq, dlT, dlF, deT, deF, dqT, dqF, nN, inb, nsb, ndv, nrm, if_true, if_false, ite_true, ite_false, true_and, and_true, and_self, and_false, false_and, or_true, true_or, or_false, false_or, or_self, ↓reduceIte, eq_self, Nat.reduceAdd, Nat.reduceMul, Nat.reduceSub, Nat.reduceDiv, Nat.reduceMod, Nat.zero_add, Nat.mul_zero, not_true_eq_false, not_false_eq_true, up_T, up_F, wr_T, wr_F, ngE, ngE', ngL, ngL', ngQ, ngQ', p1]
      · rintro J ⟨j1, j1', j2, j3⟩
        have w2 := s_Hills_widths (d + 198) 2 (yrs A k) J j1 (yrs_g g k (by omega))
        have w0 := s_Hills_widths (d + 198) 0 A J j1' g
        refine ⟨J, ?_, j1', j2, j3⟩
        simp (disch := omega) only [e_H_lost_7, e_H_lost_10, e_H_lost_11, e_H_lost_12, lit, nlt, dlF, if_false, w2, w0, bd_s, ct_s]
        rfl
    · simp only [if_neg e]
      exact ⟨I, by simp (disch := omega) only [n_H_lost, e_H_lost_0, e_H_lost_1, e_H_lost_3, e_H_lost_4, s_H_within, lit, nad, nml, bd_s, ct_s, ct_n, a11, a01, aB2, bitA, nlt, nle, neq, dlT, dlF, deT, deF, dqT, dqF, nN, inb, nsb, ndv, nrm, if_true, if_false, ite_true, ite_false, true_and, and_true, and_self, and_false, false_and, or_true, true_or, or_false, false_or, or_self, ↓reduceIte, eq_self, Nat.reduceAdd, Nat.reduceMul, Nat.reduceSub, Nat.reduceDiv, Nat.reduceMod, Nat.zero_add, Nat.mul_zero, not_true_eq_false, not_false_eq_true, up_T, up_F, wr_T, wr_F, ngE, ngE', ngL, ngL', ngQ, ngQ', hyr], hC, F, fr_rf _ _⟩
  · have hyr : I 47 0 11 = nI (A 0 0 11) := hR.1 11 (by decide)
    by_cases e : A 0 0 11 + k ≤ 200
    · simp only [if_pos e]
      have cp := s_M_copyAll (d + 198) 0 2 I (by decide)
      have hR1 : RepR 0 A (wr I 47 2 0 1941 (fun j => I 47 0 j)) := RepR_o hR (by funext j; exact wr_F (by omega))
      have w0 := s_M_widths (d + 197) A _ hR1 g
      have s0 : Sn (d + 200) q_M_lost [.inr (12, 0), .inl (nI k)] I = Rn (d + 199) q_M_lost 8 [some (.inr (12, 0)), some (.inl (nI k)), some (.inl (nI (wdS A))), some (.inl (nI 0))] [] (wr I 47 2 0 1941 (fun j => I 47 0 j)) := by
        simp (disch := omega) only [n_M_lost, e_M_lost_0, e_M_lost_1, e_M_lost_3, e_M_lost_5, e_M_lost_6, e_M_lost_7, s_M_in, lit, nad, nml, bd_s, ct_s, ct_n, a11, a01, aB2, bitA, nlt, nle, neq, dlT, dlF, deT, deF, dqT, dqF, nN, inb, nsb, ndv, nrm, if_true, if_false, ite_true, ite_false, true_and, and_true, and_self, and_false, false_and, or_true, true_or, or_false, false_or, or_self, ↓reduceIte, eq_self, Nat.reduceAdd, Nat.reduceMul, Nat.reduceSub, Nat.reduceDiv, Nat.reduceMod, Nat.zero_add, Nat.mul_zero, not_true_eq_false, not_false_eq_true, up_T, up_F, wr_T, wr_F, ngE, ngE', ngL, ngL', ngQ, ngQ', hyr, cp, w0]
        rfl
      rw [s0]
      refine lpX (n := k) (σ := mm_I) (fun i s => Rn (d + 199) q_M_lost 8 [some (.inr (12, 0)), some (.inl (nI k)), some (.inl (nI (wdS A))), some (.inl (nI i))] [] s) (fun i s => RepR 0 (yrs A i) s ∧ (∀ j, j < 1941 → s 47 2 j = I 47 0 j) ∧ fr dM' I s ∧ k12 I s) (fun q => ∃ I1, q = some (some (.inl (nI (wdS (yrs A k)) - nI (wdS A))), (sh0, I1)) ∧ RepR 0 A I1 ∧ fr dM' I I1 ∧ k12 I I1) ?_ ?_ 0 _ (Nat.zero_le _) ⟨hR1, fun j hj => by rw [wr_T (by omega), Nat.sub_zero], fr_wr (fr_rf _ _) (by unfold dM'; omega), k12_of (by funext i j; exact wr_F (by omega))⟩
      · rintro i J hi ⟨j1, j1', j2, j3⟩
        obtain ⟨J', p1, p2, p3, p4⟩ := s_M_aYear (d + 193) (yrs A i) J j1 (yrs_g g i (by omega)) (by rw [j3.2.1]; exact h8)
        refine Or.inr ⟨J', ⟨p2, fun j hj => by rw [p4 47 2 (by unfold gP; omega)]; exact j1' j hj, fr_tr j2 (fr_mono p4 (fun k i q => gPM q)), k12_tr j3 (k12_ex p3 (by decide))⟩, ?_⟩
        simp (disch := omega) only [e_M_lost_9, e_M_lost_10, e_M_lost_8 (x3 := nI i), lit, nad, nml, bd_s, ct_s, ct_n, a11, a01, aB2, bitA, nlt, nle, neq, dlT, dlF, deT, deF, dqT, dqF, nN, inb, nsb, ndv, nrm, if_true, if_false, ite_true, ite_false, true_and, and_true, and_self, and_false, false_and, or_true, true_or, or_false, false_or, or_self, ↓reduceIte, eq_self, Nat.reduceAdd, Nat.reduceMul, Nat.reduceSub, Nat.reduceDiv, Nat.reduceMod, Nat.zero_add, Nat.mul_zero, not_true_eq_false, not_false_eq_true, up_T, up_F, wr_T, wr_F, ngE, ngE', ngL, ngL', ngQ, ngQ', p1]
      · rintro J ⟨j1, j1', j2, j3⟩
        have w1 := s_M_widths (d + 197) (yrs A k) J j1 (yrs_g g k (by omega))
        have cp2 := s_M_copyAll (d + 198) 2 0 J (by decide)
        refine ⟨wr J 47 0 0 1941 (fun j => J 47 2 j), ?_, RepR_cp hR g (fun j hj => by rw [wr_T (by omega), Nat.sub_zero]; exact j1' j hj), fr_wr j2 (by unfold dM'; omega), k12_tr j3 (k12_of (by funext i j; exact wr_F (by omega)))⟩
        simp (disch := omega) only [e_M_lost_8, e_M_lost_11, e_M_lost_12, e_M_lost_13, lit, nlt, dlF, if_false, w1, cp2, bd_s, ct_s, ct_n]
        rfl
    · simp only [if_neg e]
      exact ⟨I, by simp (disch := omega) only [n_M_lost, e_M_lost_0, e_M_lost_1, e_M_lost_3, e_M_lost_4, s_M_in, lit, nad, nml, bd_s, ct_s, ct_n, a11, a01, aB2, bitA, nlt, nle, neq, dlT, dlF, deT, deF, dqT, dqF, nN, inb, nsb, ndv, nrm, if_true, if_false, ite_true, ite_false, true_and, and_true, and_self, and_false, false_and, or_true, true_or, or_false, false_or, or_self, ↓reduceIte, eq_self, Nat.reduceAdd, Nat.reduceMul, Nat.reduceSub, Nat.reduceDiv, Nat.reduceMod, Nat.zero_add, Nat.mul_zero, not_true_eq_false, not_false_eq_true, up_T, up_F, wr_T, wr_F, ngE, ngE', ngL, ngL', ngQ, ngQ', hyr], hR, fr_rf _ _, k12_rf _⟩
