/-! Calls: count, check. -/
theorem s_Hills_mendsWaiting (d : Nat) (A : mm_A) (I : mm_I) (hC : RepC 0 A I) (F : Fix I) (g : Good A) : Sn (d + 3) q_Hills_mendsWaiting [.inr (3, 0)] I = some (some (.inl (nI (sm (fun m => 1 - A 5 m 3) (A 0 0 3)))), (sh0, I)) := by
  have hM : A 0 0 3 ≤ 20 := g.2.1 1 (by decide)
  have hm : I 7 1 3 = nI (A 0 0 3) := c0_mn hC (t := 1) (by decide)
  rw [n_Hills_mendsWaiting, e_Hills_mendsWaiting_0]
  refine lpX (n := A 0 0 3) (σ := Nat) (fun i s => Rn (d + 2) q_Hills_mendsWaiting 1 [some (.inr (3, 0)), some (.inl (nI s)), some (.inl (nI i))] [] I) (fun i s => s = sm (fun m => 1 - A 5 m 3) i) (fun r => r = _) (fun i s hi hV => Or.inr ⟨s + (1 - A 5 i 3), by rw [hV, sm], by
    have ha := s_at0 d 1 i 3 A I hC F g (by decide) hi (by decide)
    have := (mdG g hi).2.2.2.2
    simp (disch := omega) only [e_Hills_mendsWaiting_2, e_Hills_mendsWaiting_3, e_Hills_mendsWaiting_1 (x2 := nI i), lit, nad, nml, bd_s, ct_s, ct_n, a11, a01, aB2, bitA, nlt, nle, neq, dlT, dlF, deT, deF, dqT, dqF, nN, inb, nsb, ndv, nrm, if_true, if_false, ite_true, ite_false, true_and, and_true, and_self, and_false, false_and, or_true, true_or, or_false, false_or, or_self, ↓reduceIte, eq_self, Nat.reduceAdd, Nat.reduceMul, Nat.reduceSub, Nat.reduceDiv, Nat.reduceMod, Nat.zero_add, Nat.mul_zero, not_true_eq_false, not_false_eq_true, up_T, up_F, wr_T, wr_F, ngE, ngE', ngL, ngL', ngQ, ngQ', hm, ha]⟩) (fun s hV => by
      rw [hV]
      simp (disch := omega) only [e_Hills_mendsWaiting_1, e_Hills_mendsWaiting_4, lit, nad, nml, bd_s, ct_s, ct_n, a11, a01, aB2, bitA, nlt, nle, neq, dlT, dlF, deT, deF, dqT, dqF, nN, inb, nsb, ndv, nrm, if_true, if_false, ite_true, ite_false, true_and, and_true, and_self, and_false, false_and, or_true, true_or, or_false, false_or, or_self, ↓reduceIte, eq_self, Nat.reduceAdd, Nat.reduceMul, Nat.reduceSub, Nat.reduceDiv, Nat.reduceMod, Nat.zero_add, Nat.mul_zero, not_true_eq_false, not_false_eq_true, up_T, up_F, wr_T, wr_F, ngE, ngE', ngL, ngL', ngQ, ngQ', hm]) 0 0 (Nat.zero_le _) rfl
theorem s_M_mendsWaiting (d : Nat) (A : mm_A) (I : mm_I) (hR : RepR 0 A I) (g : Good A) : Sn (d + 1) q_M_mendsWaiting [.inr (12, 0)] I = some (some (.inl (nI (sm (fun m => 1 - A 5 m 3) (A 0 0 3)))), (sh0, I)) := by
  have hM : A 0 0 3 ≤ 20 := g.2.1 1 (by decide)
  have hm : I 47 0 3 = nI (A 0 0 3) := hR.1 3 (by decide)
  rw [n_M_mendsWaiting, e_M_mendsWaiting_0]
  refine lpX (n := A 0 0 3) (σ := Nat) (fun i s => Rn d q_M_mendsWaiting 1 [some (.inr (12, 0)), some (.inl (nI s)), some (.inl (nI i))] [] I) (fun i s => s = sm (fun m => 1 - A 5 m 3) i) (fun r => r = _) (fun i s hi hV => Or.inr ⟨s + (1 - A 5 i 3), by rw [hV, sm], by
    have ha : I 47 0 (192 + 4 * i + 3) = nI (A 5 i 3) := hR.2.2.2.2 1 i 3 (by decide) hi (by decide)
    have := (mdG g hi).2.2.2.2
    simp (disch := omega) only [e_M_mendsWaiting_2, e_M_mendsWaiting_1 (x2 := nI i), lit, nad, nml, bd_s, ct_s, ct_n, a11, a01, aB2, bitA, nlt, nle, neq, dlT, dlF, deT, deF, dqT, dqF, nN, inb, nsb, ndv, nrm, if_true, if_false, ite_true, ite_false, true_and, and_true, and_self, and_false, false_and, or_true, true_or, or_false, false_or, or_self, ↓reduceIte, eq_self, Nat.reduceAdd, Nat.reduceMul, Nat.reduceSub, Nat.reduceDiv, Nat.reduceMod, Nat.zero_add, Nat.mul_zero, not_true_eq_false, not_false_eq_true, up_T, up_F, wr_T, wr_F, ngE, ngE', ngL, ngL', ngQ, ngQ', hm, ha]⟩) (fun s hV => by
      rw [hV]
      simp (disch := omega) only [e_M_mendsWaiting_1, e_M_mendsWaiting_3, lit, nad, nml, bd_s, ct_s, ct_n, a11, a01, aB2, bitA, nlt, nle, neq, dlT, dlF, deT, deF, dqT, dqF, nN, inb, nsb, ndv, nrm, if_true, if_false, ite_true, ite_false, true_and, and_true, and_self, and_false, false_and, or_true, true_or, or_false, false_or, or_self, ↓reduceIte, eq_self, Nat.reduceAdd, Nat.reduceMul, Nat.reduceSub, Nat.reduceDiv, Nat.reduceMod, Nat.zero_add, Nat.mul_zero, not_true_eq_false, not_false_eq_true, up_T, up_F, wr_T, wr_F, ngE, ngE', ngL, ngL', ngQ, ngQ', hm]) 0 0 (Nat.zero_le _) rfl
theorem s_M_pathsShut (d : Nat) (A : mm_A) (I : mm_I) (hR : RepR 0 A I) (g : Good A) : Sn (d + 2) q_M_pathsShut [.inr (12, 0)] I = some (some (.inl (nI (sm (fun p => A 1 p 7) (A 0 0 0)))), (sh0, I)) := by
  have hn := g.1.1
  have h0 : I 47 0 0 = nI (A 0 0 0) := hR.1 0 (by decide)
  rw [n_M_pathsShut, e_M_pathsShut_0]
  refine lpX (n := A 0 0 0) (σ := Nat) (fun i s => Rn (d + 1) q_M_pathsShut 1 [some (.inr (12, 0)), some (.inl (nI s)), some (.inl (nI i))] [] I) (fun i s => s = sm (fun p => A 1 p 7) i) (fun r => r = _) (fun i s hi hV => Or.inr ⟨s + A 1 i 7, by rw [hV, sm], by
    have o := s_M_of9 d i 7 A I hR g hi (by decide)
    simp (disch := omega) only [e_M_pathsShut_2, e_M_pathsShut_3, e_M_pathsShut_1 (x2 := nI i), lit, nad, nml, bd_s, ct_s, ct_n, a11, a01, aB2, bitA, nlt, nle, neq, dlT, dlF, deT, deF, dqT, dqF, nN, inb, nsb, ndv, nrm, if_true, if_false, ite_true, ite_false, true_and, and_true, and_self, and_false, false_and, or_true, true_or, or_false, false_or, or_self, ↓reduceIte, eq_self, Nat.reduceAdd, Nat.reduceMul, Nat.reduceSub, Nat.reduceDiv, Nat.reduceMod, Nat.zero_add, Nat.mul_zero, not_true_eq_false, not_false_eq_true, up_T, up_F, wr_T, wr_F, ngE, ngE', ngL, ngL', ngQ, ngQ', h0, o]⟩) (fun s hV => by
      rw [hV]
      simp (disch := omega) only [e_M_pathsShut_1, e_M_pathsShut_4, lit, nad, nml, bd_s, ct_s, ct_n, a11, a01, aB2, bitA, nlt, nle, neq, dlT, dlF, deT, deF, dqT, dqF, nN, inb, nsb, ndv, nrm, if_true, if_false, ite_true, ite_false, true_and, and_true, and_self, and_false, false_and, or_true, true_or, or_false, false_or, or_self, ↓reduceIte, eq_self, Nat.reduceAdd, Nat.reduceMul, Nat.reduceSub, Nat.reduceDiv, Nat.reduceMod, Nat.zero_add, Nat.mul_zero, not_true_eq_false, not_false_eq_true, up_T, up_F, wr_T, wr_F, ngE, ngE', ngL, ngL', ngQ, ngQ', h0]) 0 0 (Nat.zero_le _) rfl
theorem Ok_count (d : Nat) (w : Int32) : Ok (d + 200) q_H_count q_M_count [.inl w] := by
  rintro I ⟨hr, A, hC, hR, g, hy, h5⟩
  suffices h : ∃ r, Sn (d + 200) q_H_count [.inr (11, 0), .inl w] I = some (some (.inl r), (sh0, I)) ∧ Sn (d + 200) q_M_count [.inr (12, 0), .inl w] I = some (some (.inl r), (sh0, I)) by
    obtain ⟨r, h1, h2⟩ := h
    exact ⟨r, I, I, h1, h2, hr, A, hC, hR, g, hy, h5⟩
  obtain ⟨n, T, n1, n2, n3, n4⟩ := hr.2.2.1
  obtain ⟨u, u1, u2, u3, u4⟩ := hr.2.2.2.2.2
  by_cases h : nI 0 ≤ w ∧ w ≤ nI 14
  · obtain ⟨k, -, k1, k2⟩ := wof h (by decide) (by decide)
    subst k2
    have m := fun c hc => hR.1 c hc
    have mn := fun t (ht : t < 7) => c0_mn hC ht
    rcases (show k = 0 ∨ k = 1 ∨ k = 2 ∨ k = 3 ∨ k = 4 ∨ k = 5 ∨ k = 6 ∨ k = 7 ∨ k = 8 ∨ k = 9 ∨ k = 10 ∨ k = 11 ∨ k = 12 ∨ k = 13 ∨ k = 14 by omega) with q | q | q | q | q | q | q | q | q | q | q | q | q | q | q <;> subst q
    · exact ⟨nI (A 0 0 0), by simp (disch := omega) only [n_H_count, e_H_count_0, e_H_count_1, lit, nad, nml, bd_s, ct_s, ct_n, a11, a01, aB2, bitA, nlt, nle, neq, dlT, dlF, deT, deF, dqT, dqF, nN, inb, nsb, ndv, nrm, if_true, if_false, ite_true, ite_false, true_and, and_true, and_self, and_false, false_and, or_true, true_or, or_false, false_or, or_self, ↓reduceIte, eq_self, Nat.reduceAdd, Nat.reduceMul, Nat.reduceSub, Nat.reduceDiv, Nat.reduceMod, Nat.zero_add, Nat.mul_zero, not_true_eq_false, not_false_eq_true, up_T, up_F, wr_T, wr_F, ngE, ngE', ngL, ngL', ngQ, ngQ', hC.1.1], by simp (disch := omega) only [n_M_count, e_M_count_0, e_M_count_1, lit, nad, nml, bd_s, ct_s, ct_n, a11, a01, aB2, bitA, nlt, nle, neq, dlT, dlF, deT, deF, dqT, dqF, nN, inb, nsb, ndv, nrm, if_true, if_false, ite_true, ite_false, true_and, and_true, and_self, and_false, false_and, or_true, true_or, or_false, false_or, or_self, ↓reduceIte, eq_self, Nat.reduceAdd, Nat.reduceMul, Nat.reduceSub, Nat.reduceDiv, Nat.reduceMod, Nat.zero_add, Nat.mul_zero, not_true_eq_false, not_false_eq_true, up_T, up_F, wr_T, wr_F, ngE, ngE', ngL, ngL', ngQ, ngQ', m 0 (by decide)]⟩
    · exact ⟨nI (sm (fun p => A 1 p 7) (A 0 0 0)), by simp (disch := omega) only [n_H_count, e_H_count_0, e_H_count_2, e_H_count_3, lit, nad, nml, bd_s, ct_s, ct_n, a11, a01, aB2, bitA, nlt, nle, neq, dlT, dlF, deT, deF, dqT, dqF, nN, inb, nsb, ndv, nrm, if_true, if_false, ite_true, ite_false, true_and, and_true, and_self, and_false, false_and, or_true, true_or, or_false, false_or, or_self, ↓reduceIte, eq_self, Nat.reduceAdd, Nat.reduceMul, Nat.reduceSub, Nat.reduceDiv, Nat.reduceMod, Nat.zero_add, Nat.mul_zero, not_true_eq_false, not_false_eq_true, up_T, up_F, wr_T, wr_F, ngE, ngE', ngL, ngL', ngQ, ngQ', s_Hills_shutCount (d + 198) 0 A I hC g], by simp (disch := omega) only [n_M_count, e_M_count_0, e_M_count_2, e_M_count_3, lit, nad, nml, bd_s, ct_s, ct_n, a11, a01, aB2, bitA, nlt, nle, neq, dlT, dlF, deT, deF, dqT, dqF, nN, inb, nsb, ndv, nrm, if_true, if_false, ite_true, ite_false, true_and, and_true, and_self, and_false, false_and, or_true, true_or, or_false, false_or, or_self, ↓reduceIte, eq_self, Nat.reduceAdd, Nat.reduceMul, Nat.reduceSub, Nat.reduceDiv, Nat.reduceMod, Nat.zero_add, Nat.mul_zero, not_true_eq_false, not_false_eq_true, up_T, up_F, wr_T, wr_F, ngE, ngE', ngL, ngL', ngQ, ngQ', s_M_pathsShut (d + 197) A I hR g]⟩
    · exact ⟨nI (A 0 0 1), by simp (disch := omega) only [n_H_count, e_H_count_0, e_H_count_4, lit, nad, nml, bd_s, ct_s, ct_n, a11, a01, aB2, bitA, nlt, nle, neq, dlT, dlF, deT, deF, dqT, dqF, nN, inb, nsb, ndv, nrm, if_true, if_false, ite_true, ite_false, true_and, and_true, and_self, and_false, false_and, or_true, true_or, or_false, false_or, or_self, ↓reduceIte, eq_self, Nat.reduceAdd, Nat.reduceMul, Nat.reduceSub, Nat.reduceDiv, Nat.reduceMod, Nat.zero_add, Nat.mul_zero, not_true_eq_false, not_false_eq_true, up_T, up_F, wr_T, wr_F, ngE, ngE', ngL, ngL', ngQ, ngQ', show I 7 0 3 = nI (A 0 0 1) from mn 0 (by decide)], by simp (disch := omega) only [n_M_count, e_M_count_0, e_M_count_4, lit, nad, nml, bd_s, ct_s, ct_n, a11, a01, aB2, bitA, nlt, nle, neq, dlT, dlF, deT, deF, dqT, dqF, nN, inb, nsb, ndv, nrm, if_true, if_false, ite_true, ite_false, true_and, and_true, and_self, and_false, false_and, or_true, true_or, or_false, false_or, or_self, ↓reduceIte, eq_self, Nat.reduceAdd, Nat.reduceMul, Nat.reduceSub, Nat.reduceDiv, Nat.reduceMod, Nat.zero_add, Nat.mul_zero, not_true_eq_false, not_false_eq_true, up_T, up_F, wr_T, wr_F, ngE, ngE', ngL, ngL', ngQ, ngQ', m 1 (by decide)]⟩
    · exact ⟨nI (A 0 0 2), by simp (disch := omega) only [n_H_count, e_H_count_0, e_H_count_5, lit, nad, nml, bd_s, ct_s, ct_n, a11, a01, aB2, bitA, nlt, nle, neq, dlT, dlF, deT, deF, dqT, dqF, nN, inb, nsb, ndv, nrm, if_true, if_false, ite_true, ite_false, true_and, and_true, and_self, and_false, false_and, or_true, true_or, or_false, false_or, or_self, ↓reduceIte, eq_self, Nat.reduceAdd, Nat.reduceMul, Nat.reduceSub, Nat.reduceDiv, Nat.reduceMod, Nat.zero_add, Nat.mul_zero, not_true_eq_false, not_false_eq_true, up_T, up_F, wr_T, wr_F, ngE, ngE', ngL, ngL', ngQ, ngQ', hC.1.2.1], by simp (disch := omega) only [n_M_count, e_M_count_0, e_M_count_5, lit, nad, nml, bd_s, ct_s, ct_n, a11, a01, aB2, bitA, nlt, nle, neq, dlT, dlF, deT, deF, dqT, dqF, nN, inb, nsb, ndv, nrm, if_true, if_false, ite_true, ite_false, true_and, and_true, and_self, and_false, false_and, or_true, true_or, or_false, false_or, or_self, ↓reduceIte, eq_self, Nat.reduceAdd, Nat.reduceMul, Nat.reduceSub, Nat.reduceDiv, Nat.reduceMod, Nat.zero_add, Nat.mul_zero, not_true_eq_false, not_false_eq_true, up_T, up_F, wr_T, wr_F, ngE, ngE', ngL, ngL', ngQ, ngQ', m 2 (by decide)]⟩
    · exact ⟨nI (A 0 0 3), by simp (disch := omega) only [n_H_count, e_H_count_0, e_H_count_6, lit, nad, nml, bd_s, ct_s, ct_n, a11, a01, aB2, bitA, nlt, nle, neq, dlT, dlF, deT, deF, dqT, dqF, nN, inb, nsb, ndv, nrm, if_true, if_false, ite_true, ite_false, true_and, and_true, and_self, and_false, false_and, or_true, true_or, or_false, false_or, or_self, ↓reduceIte, eq_self, Nat.reduceAdd, Nat.reduceMul, Nat.reduceSub, Nat.reduceDiv, Nat.reduceMod, Nat.zero_add, Nat.mul_zero, not_true_eq_false, not_false_eq_true, up_T, up_F, wr_T, wr_F, ngE, ngE', ngL, ngL', ngQ, ngQ', show I 7 1 3 = nI (A 0 0 3) from mn 1 (by decide)], by simp (disch := omega) only [n_M_count, e_M_count_0, e_M_count_6, lit, nad, nml, bd_s, ct_s, ct_n, a11, a01, aB2, bitA, nlt, nle, neq, dlT, dlF, deT, deF, dqT, dqF, nN, inb, nsb, ndv, nrm, if_true, if_false, ite_true, ite_false, true_and, and_true, and_self, and_false, false_and, or_true, true_or, or_false, false_or, or_self, ↓reduceIte, eq_self, Nat.reduceAdd, Nat.reduceMul, Nat.reduceSub, Nat.reduceDiv, Nat.reduceMod, Nat.zero_add, Nat.mul_zero, not_true_eq_false, not_false_eq_true, up_T, up_F, wr_T, wr_F, ngE, ngE', ngL, ngL', ngQ, ngQ', m 3 (by decide)]⟩
    · exact ⟨nI (sm (fun m => 1 - A 5 m 3) (A 0 0 3)), by simp (disch := omega) only [n_H_count, e_H_count_0, e_H_count_7, e_H_count_8, lit, nad, nml, bd_s, ct_s, ct_n, a11, a01, aB2, bitA, nlt, nle, neq, dlT, dlF, deT, deF, dqT, dqF, nN, inb, nsb, ndv, nrm, if_true, if_false, ite_true, ite_false, true_and, and_true, and_self, and_false, false_and, or_true, true_or, or_false, false_or, or_self, ↓reduceIte, eq_self, Nat.reduceAdd, Nat.reduceMul, Nat.reduceSub, Nat.reduceDiv, Nat.reduceMod, Nat.zero_add, Nat.mul_zero, not_true_eq_false, not_false_eq_true, up_T, up_F, wr_T, wr_F, ngE, ngE', ngL, ngL', ngQ, ngQ', s_Hills_mendsWaiting (d + 196) A I hC hr.1 g], by simp (disch := omega) only [n_M_count, e_M_count_0, e_M_count_7, e_M_count_8, lit, nad, nml, bd_s, ct_s, ct_n, a11, a01, aB2, bitA, nlt, nle, neq, dlT, dlF, deT, deF, dqT, dqF, nN, inb, nsb, ndv, nrm, if_true, if_false, ite_true, ite_false, true_and, and_true, and_self, and_false, false_and, or_true, true_or, or_false, false_or, or_self, ↓reduceIte, eq_self, Nat.reduceAdd, Nat.reduceMul, Nat.reduceSub, Nat.reduceDiv, Nat.reduceMod, Nat.zero_add, Nat.mul_zero, not_true_eq_false, not_false_eq_true, up_T, up_F, wr_T, wr_F, ngE, ngE', ngL, ngL', ngQ, ngQ', s_M_mendsWaiting (d + 198) A I hR g]⟩
    · exact ⟨nI (A 0 0 4), by simp (disch := omega) only [n_H_count, e_H_count_0, e_H_count_9, lit, nad, nml, bd_s, ct_s, ct_n, a11, a01, aB2, bitA, nlt, nle, neq, dlT, dlF, deT, deF, dqT, dqF, nN, inb, nsb, ndv, nrm, if_true, if_false, ite_true, ite_false, true_and, and_true, and_self, and_false, false_and, or_true, true_or, or_false, false_or, or_self, ↓reduceIte, eq_self, Nat.reduceAdd, Nat.reduceMul, Nat.reduceSub, Nat.reduceDiv, Nat.reduceMod, Nat.zero_add, Nat.mul_zero, not_true_eq_false, not_false_eq_true, up_T, up_F, wr_T, wr_F, ngE, ngE', ngL, ngL', ngQ, ngQ', show I 7 2 3 = nI (A 0 0 4) from mn 2 (by decide)], by simp (disch := omega) only [n_M_count, e_M_count_0, e_M_count_9, lit, nad, nml, bd_s, ct_s, ct_n, a11, a01, aB2, bitA, nlt, nle, neq, dlT, dlF, deT, deF, dqT, dqF, nN, inb, nsb, ndv, nrm, if_true, if_false, ite_true, ite_false, true_and, and_true, and_self, and_false, false_and, or_true, true_or, or_false, false_or, or_self, ↓reduceIte, eq_self, Nat.reduceAdd, Nat.reduceMul, Nat.reduceSub, Nat.reduceDiv, Nat.reduceMod, Nat.zero_add, Nat.mul_zero, not_true_eq_false, not_false_eq_true, up_T, up_F, wr_T, wr_F, ngE, ngE', ngL, ngL', ngQ, ngQ', m 4 (by decide)]⟩
    · exact ⟨nI (A 0 0 5), by simp (disch := omega) only [n_H_count, e_H_count_0, e_H_count_10, lit, nad, nml, bd_s, ct_s, ct_n, a11, a01, aB2, bitA, nlt, nle, neq, dlT, dlF, deT, deF, dqT, dqF, nN, inb, nsb, ndv, nrm, if_true, if_false, ite_true, ite_false, true_and, and_true, and_self, and_false, false_and, or_true, true_or, or_false, false_or, or_self, ↓reduceIte, eq_self, Nat.reduceAdd, Nat.reduceMul, Nat.reduceSub, Nat.reduceDiv, Nat.reduceMod, Nat.zero_add, Nat.mul_zero, not_true_eq_false, not_false_eq_true, up_T, up_F, wr_T, wr_F, ngE, ngE', ngL, ngL', ngQ, ngQ', show I 7 3 3 = nI (A 0 0 5) from mn 3 (by decide)], by simp (disch := omega) only [n_M_count, e_M_count_0, e_M_count_10, lit, nad, nml, bd_s, ct_s, ct_n, a11, a01, aB2, bitA, nlt, nle, neq, dlT, dlF, deT, deF, dqT, dqF, nN, inb, nsb, ndv, nrm, if_true, if_false, ite_true, ite_false, true_and, and_true, and_self, and_false, false_and, or_true, true_or, or_false, false_or, or_self, ↓reduceIte, eq_self, Nat.reduceAdd, Nat.reduceMul, Nat.reduceSub, Nat.reduceDiv, Nat.reduceMod, Nat.zero_add, Nat.mul_zero, not_true_eq_false, not_false_eq_true, up_T, up_F, wr_T, wr_F, ngE, ngE', ngL, ngL', ngQ, ngQ', m 5 (by decide)]⟩
    · exact ⟨nI (A 0 0 6), by simp (disch := omega) only [n_H_count, e_H_count_0, e_H_count_11, lit, nad, nml, bd_s, ct_s, ct_n, a11, a01, aB2, bitA, nlt, nle, neq, dlT, dlF, deT, deF, dqT, dqF, nN, inb, nsb, ndv, nrm, if_true, if_false, ite_true, ite_false, true_and, and_true, and_self, and_false, false_and, or_true, true_or, or_false, false_or, or_self, ↓reduceIte, eq_self, Nat.reduceAdd, Nat.reduceMul, Nat.reduceSub, Nat.reduceDiv, Nat.reduceMod, Nat.zero_add, Nat.mul_zero, not_true_eq_false, not_false_eq_true, up_T, up_F, wr_T, wr_F, ngE, ngE', ngL, ngL', ngQ, ngQ', show I 7 4 3 = nI (A 0 0 6) from mn 4 (by decide)], by simp (disch := omega) only [n_M_count, e_M_count_0, e_M_count_11, lit, nad, nml, bd_s, ct_s, ct_n, a11, a01, aB2, bitA, nlt, nle, neq, dlT, dlF, deT, deF, dqT, dqF, nN, inb, nsb, ndv, nrm, if_true, if_false, ite_true, ite_false, true_and, and_true, and_self, and_false, false_and, or_true, true_or, or_false, false_or, or_self, ↓reduceIte, eq_self, Nat.reduceAdd, Nat.reduceMul, Nat.reduceSub, Nat.reduceDiv, Nat.reduceMod, Nat.zero_add, Nat.mul_zero, not_true_eq_false, not_false_eq_true, up_T, up_F, wr_T, wr_F, ngE, ngE', ngL, ngL', ngQ, ngQ', m 6 (by decide)]⟩
    · exact ⟨nI (A 0 0 7), by simp (disch := omega) only [n_H_count, e_H_count_0, e_H_count_12, lit, nad, nml, bd_s, ct_s, ct_n, a11, a01, aB2, bitA, nlt, nle, neq, dlT, dlF, deT, deF, dqT, dqF, nN, inb, nsb, ndv, nrm, if_true, if_false, ite_true, ite_false, true_and, and_true, and_self, and_false, false_and, or_true, true_or, or_false, false_or, or_self, ↓reduceIte, eq_self, Nat.reduceAdd, Nat.reduceMul, Nat.reduceSub, Nat.reduceDiv, Nat.reduceMod, Nat.zero_add, Nat.mul_zero, not_true_eq_false, not_false_eq_true, up_T, up_F, wr_T, wr_F, ngE, ngE', ngL, ngL', ngQ, ngQ', show I 7 5 3 = nI (A 0 0 7) from mn 5 (by decide)], by simp (disch := omega) only [n_M_count, e_M_count_0, e_M_count_12, lit, nad, nml, bd_s, ct_s, ct_n, a11, a01, aB2, bitA, nlt, nle, neq, dlT, dlF, deT, deF, dqT, dqF, nN, inb, nsb, ndv, nrm, if_true, if_false, ite_true, ite_false, true_and, and_true, and_self, and_false, false_and, or_true, true_or, or_false, false_or, or_self, ↓reduceIte, eq_self, Nat.reduceAdd, Nat.reduceMul, Nat.reduceSub, Nat.reduceDiv, Nat.reduceMod, Nat.zero_add, Nat.mul_zero, not_true_eq_false, not_false_eq_true, up_T, up_F, wr_T, wr_F, ngE, ngE', ngL, ngL', ngQ, ngQ', m 7 (by decide)]⟩
    · exact ⟨nI (A 0 0 8), by simp (disch := omega) only [n_H_count, e_H_count_0, e_H_count_13, lit, nad, nml, bd_s, ct_s, ct_n, a11, a01, aB2, bitA, nlt, nle, neq, dlT, dlF, deT, deF, dqT, dqF, nN, inb, nsb, ndv, nrm, if_true, if_false, ite_true, ite_false, true_and, and_true, and_self, and_false, false_and, or_true, true_or, or_false, false_or, or_self, ↓reduceIte, eq_self, Nat.reduceAdd, Nat.reduceMul, Nat.reduceSub, Nat.reduceDiv, Nat.reduceMod, Nat.zero_add, Nat.mul_zero, not_true_eq_false, not_false_eq_true, up_T, up_F, wr_T, wr_F, ngE, ngE', ngL, ngL', ngQ, ngQ', show I 7 6 3 = nI (A 0 0 8) from mn 6 (by decide)], by simp (disch := omega) only [n_M_count, e_M_count_0, e_M_count_13, lit, nad, nml, bd_s, ct_s, ct_n, a11, a01, aB2, bitA, nlt, nle, neq, dlT, dlF, deT, deF, dqT, dqF, nN, inb, nsb, ndv, nrm, if_true, if_false, ite_true, ite_false, true_and, and_true, and_self, and_false, false_and, or_true, true_or, or_false, false_or, or_self, ↓reduceIte, eq_self, Nat.reduceAdd, Nat.reduceMul, Nat.reduceSub, Nat.reduceDiv, Nat.reduceMod, Nat.zero_add, Nat.mul_zero, not_true_eq_false, not_false_eq_true, up_T, up_F, wr_T, wr_F, ngE, ngE', ngL, ngL', ngQ, ngQ', m 8 (by decide)]⟩
    · exact ⟨nI (A 0 0 10), by simp (disch := omega) only [n_H_count, e_H_count_0, e_H_count_14, lit, nad, nml, bd_s, ct_s, ct_n, a11, a01, aB2, bitA, nlt, nle, neq, dlT, dlF, deT, deF, dqT, dqF, nN, inb, nsb, ndv, nrm, if_true, if_false, ite_true, ite_false, true_and, and_true, and_self, and_false, false_and, or_true, true_or, or_false, false_or, or_self, ↓reduceIte, eq_self, Nat.reduceAdd, Nat.reduceMul, Nat.reduceSub, Nat.reduceDiv, Nat.reduceMod, Nat.zero_add, Nat.mul_zero, not_true_eq_false, not_false_eq_true, up_T, up_F, wr_T, wr_F, ngE, ngE', ngL, ngL', ngQ, ngQ', hC.1.2.2.2.1], by simp (disch := omega) only [n_M_count, e_M_count_0, e_M_count_14, lit, nad, nml, bd_s, ct_s, ct_n, a11, a01, aB2, bitA, nlt, nle, neq, dlT, dlF, deT, deF, dqT, dqF, nN, inb, nsb, ndv, nrm, if_true, if_false, ite_true, ite_false, true_and, and_true, and_self, and_false, false_and, or_true, true_or, or_false, false_or, or_self, ↓reduceIte, eq_self, Nat.reduceAdd, Nat.reduceMul, Nat.reduceSub, Nat.reduceDiv, Nat.reduceMod, Nat.zero_add, Nat.mul_zero, not_true_eq_false, not_false_eq_true, up_T, up_F, wr_T, wr_F, ngE, ngE', ngL, ngL', ngQ, ngQ', m 10 (by decide)]⟩
    · exact ⟨nI u, by simp (disch := omega) only [n_H_count, e_H_count_0, e_H_count_15, lit, nad, nml, bd_s, ct_s, ct_n, a11, a01, aB2, bitA, nlt, nle, neq, dlT, dlF, deT, deF, dqT, dqF, nN, inb, nsb, ndv, nrm, if_true, if_false, ite_true, ite_false, true_and, and_true, and_self, and_false, false_and, or_true, true_or, or_false, false_or, or_self, ↓reduceIte, eq_self, Nat.reduceAdd, Nat.reduceMul, Nat.reduceSub, Nat.reduceDiv, Nat.reduceMod, Nat.zero_add, Nat.mul_zero, not_true_eq_false, not_false_eq_true, up_T, up_F, wr_T, wr_F, ngE, ngE', ngL, ngL', ngQ, ngQ', u2], by simp (disch := omega) only [n_M_count, e_M_count_0, e_M_count_15, lit, nad, nml, bd_s, ct_s, ct_n, a11, a01, aB2, bitA, nlt, nle, neq, dlT, dlF, deT, deF, dqT, dqF, nN, inb, nsb, ndv, nrm, if_true, if_false, ite_true, ite_false, true_and, and_true, and_self, and_false, false_and, or_true, true_or, or_false, false_or, or_self, ↓reduceIte, eq_self, Nat.reduceAdd, Nat.reduceMul, Nat.reduceSub, Nat.reduceDiv, Nat.reduceMod, Nat.zero_add, Nat.mul_zero, not_true_eq_false, not_false_eq_true, up_T, up_F, wr_T, wr_F, ngE, ngE', ngL, ngL', ngQ, ngQ', u3]⟩
    · exact ⟨nI n, by simp (disch := omega) only [n_H_count, e_H_count_0, e_H_count_16, lit, nad, nml, bd_s, ct_s, ct_n, a11, a01, aB2, bitA, nlt, nle, neq, dlT, dlF, deT, deF, dqT, dqF, nN, inb, nsb, ndv, nrm, if_true, if_false, ite_true, ite_false, true_and, and_true, and_self, and_false, false_and, or_true, true_or, or_false, false_or, or_self, ↓reduceIte, eq_self, Nat.reduceAdd, Nat.reduceMul, Nat.reduceSub, Nat.reduceDiv, Nat.reduceMod, Nat.zero_add, Nat.mul_zero, not_true_eq_false, not_false_eq_true, up_T, up_F, wr_T, wr_F, ngE, ngE', ngL, ngL', ngQ, ngQ', n2], by simp (disch := omega) only [n_M_count, e_M_count_0, e_M_count_16, lit, nad, nml, bd_s, ct_s, ct_n, a11, a01, aB2, bitA, nlt, nle, neq, dlT, dlF, deT, deF, dqT, dqF, nN, inb, nsb, ndv, nrm, if_true, if_false, ite_true, ite_false, true_and, and_true, and_self, and_false, false_and, or_true, true_or, or_false, false_or, or_self, ↓reduceIte, eq_self, Nat.reduceAdd, Nat.reduceMul, Nat.reduceSub, Nat.reduceDiv, Nat.reduceMod, Nat.zero_add, Nat.mul_zero, not_true_eq_false, not_false_eq_true, up_T, up_F, wr_T, wr_F, ngE, ngE', ngL, ngL', ngQ, ngQ', n3]⟩
    · exact ⟨nI (A 0 0 11), by simp (disch := omega) only [n_H_count, e_H_count_0, e_H_count_17, lit, nad, nml, bd_s, ct_s, ct_n, a11, a01, aB2, bitA, nlt, nle, neq, dlT, dlF, deT, deF, dqT, dqF, nN, inb, nsb, ndv, nrm, if_true, if_false, ite_true, ite_false, true_and, and_true, and_self, and_false, false_and, or_true, true_or, or_false, false_or, or_self, ↓reduceIte, eq_self, Nat.reduceAdd, Nat.reduceMul, Nat.reduceSub, Nat.reduceDiv, Nat.reduceMod, Nat.zero_add, Nat.mul_zero, not_true_eq_false, not_false_eq_true, up_T, up_F, wr_T, wr_F, ngE, ngE', ngL, ngL', ngQ, ngQ', hC.1.2.2.2.2], by simp (disch := omega) only [n_M_count, e_M_count_0, e_M_count_17, lit, nad, nml, bd_s, ct_s, ct_n, a11, a01, aB2, bitA, nlt, nle, neq, dlT, dlF, deT, deF, dqT, dqF, nN, inb, nsb, ndv, nrm, if_true, if_false, ite_true, ite_false, true_and, and_true, and_self, and_false, false_and, or_true, true_or, or_false, false_or, or_self, ↓reduceIte, eq_self, Nat.reduceAdd, Nat.reduceMul, Nat.reduceSub, Nat.reduceDiv, Nat.reduceMod, Nat.zero_add, Nat.mul_zero, not_true_eq_false, not_false_eq_true, up_T, up_F, wr_T, wr_F, ngE, ngE', ngL, ngL', ngQ, ngQ', m 11 (by decide)]⟩
  · have hk : ∀ k, k ≤ 14 → (w = nI k) = False := fun k hk => eq_false (fun q => h (by rw [q, nle (by decide) (by omega), nle (by omega) (by decide)]; omega))
    exact ⟨-nI 1000000001, by simp (disch := omega) only [n_H_count, e_H_count_0, e_H_count_18, lit, nad, nml, bd_s, ct_s, ct_n, a11, a01, aB2, bitA, nlt, nle, neq, dlT, dlF, deT, deF, dqT, dqF, nN, inb, nsb, ndv, nrm, if_true, if_false, ite_true, ite_false, true_and, and_true, and_self, and_false, false_and, or_true, true_or, or_false, false_or, or_self, ↓reduceIte, eq_self, Nat.reduceAdd, Nat.reduceMul, Nat.reduceSub, Nat.reduceDiv, Nat.reduceMod, Nat.zero_add, Nat.mul_zero, not_true_eq_false, not_false_eq_true, up_T, up_F, wr_T, wr_F, ngE, ngE', ngL, ngL', ngQ, ngQ', hk], by simp (disch := omega) only [n_M_count, e_M_count_0, e_M_count_18, lit, nad, nml, bd_s, ct_s, ct_n, a11, a01, aB2, bitA, nlt, nle, neq, dlT, dlF, deT, deF, dqT, dqF, nN, inb, nsb, ndv, nrm, if_true, if_false, ite_true, ite_false, true_and, and_true, and_self, and_false, false_and, or_true, true_or, or_false, false_or, or_self, ↓reduceIte, eq_self, Nat.reduceAdd, Nat.reduceMul, Nat.reduceSub, Nat.reduceDiv, Nat.reduceMod, Nat.zero_add, Nat.mul_zero, not_true_eq_false, not_false_eq_true, up_T, up_F, wr_T, wr_F, ngE, ngE', ngL, ngL', ngQ, ngQ', hk]⟩
/-- what is due at place k -/
noncomputable def dvB (B : mm_A) (k : Nat) : Int32 := if k % 2 = 0 then nI (wdS (yrs B (k / 2 + 1))) else nI (yrs B (k / 2 + 1) 0 0 10)
noncomputable def bdB (B : mm_A) (T : Nat → Int32) (n k : Nat) : Bool := decide (2 * n ≤ k) || !decide (T k = dvB B k)
noncomputable def chB (B : mm_A) (T : Nat → Int32) (n m : Nat) : Int32 := match fs (bdB B T n) 0 m with
  | some k => nI (1 + k)
  | none => if m < 2 * n then nI (1 + m) else nI 0
theorem chB_some {B : mm_A} {T : Nat → Int32} {n m k : Nat} (hk : k < m) (h : ∀ i, i < k → T i = dvB B i) (hn : k ≤ 2 * n) (hb : 2 * n = k ∨ T k ≠ dvB B k) : chB B T n m = nI (1 + k) := by
  have : fs (bdB B T n) 0 m = some k := by
    refine fs_of (Nat.zero_le _) (by omega) ?_ (fun i _ hi => ?_)
    · unfold bdB
      rcases hb with q | q
      · simp [q]
      · simp [q]
    · unfold bdB
      rw [decide_eq_false (by omega), h i hi]
      simp
  unfold chB
  rw [this]
theorem chB_none {B : mm_A} {T : Nat → Int32} {n m : Nat} (hm : m ≤ 2 * n) (h : ∀ i, i < m → T i = dvB B i) : chB B T n m = if m < 2 * n then nI (1 + m) else nI 0 := by
  have : fs (bdB B T n) 0 m = none := by
    refine fs_nof (fun i _ hi => ?_)
    unfold bdB
    rw [decide_eq_false (by omega), h i (by omega)]
    simp
  unfold chB
  rw [this]
theorem s_H_check (d n m : Nat) (T : Nat → Int32) (B : mm_A) (I : mm_I) (hC : RepC 1 B I) (F : Fix I) (g : Good B) (hy : B 0 0 11 ≤ 200) (hn : 1 ≤ n) (hn2 : n ≤ 20) (hm : m ≤ 60) (h16 : I 11 0 16 = nI m) (h3 : I 11 0 3 = nI 1) (hT : ∀ k, k < m → I 46 0 k = T k) : ∃ I', Sn (d + 6) q_H_check [.inr (11, 0), .inl (nI n)] I = some (some (.inl (chB B T n m)), (sh0, I')) ∧ Fix I' ∧ fr (fP 2) (mm_up I 11 0 16 (nI 0)) I' := by
  have e0 : ∀ k i, k ≠ 11 → (mm_up I 11 0 16 (nI 0)) k i = I k i := fun k i h => by funext j; exact up_F (by omega)
  have hC0 : RepC 1 B (mm_up I 11 0 16 (nI 0)) := RepC_fr hC g (fun k i q => e0 k i (by unfold hc at q; omega))
  have F0 : Fix (mm_up I 11 0 16 (nI 0)) := Fix_up F (by omega)
  have h30 : (mm_up I 11 0 16 (nI 0)) 11 0 3 = nI 1 := by rw [up_F (by omega)]; exact h3
  obtain ⟨I1, b1, b2, b3, b4⟩ := s_Hills_become (d + 3) 2 1 B _ hC0 F0 g (by decide) (by decide) (by decide)
  have k0 : Sn (d + 6) q_H_check [.inr (11, 0), .inl (nI n)] I = Rn (d + 5) q_H_check 7 [some (.inr (11, 0)), some (.inl (nI n)), some (.inl (nI m)), some (.inl (nI 0)), none] [] I1 := by
    simp (disch := omega) only [n_H_check, e_H_check_0, e_H_check_1, e_H_check_3, e_H_check_5, e_H_check_6, s_H_within, lit, nad, nml, bd_s, ct_s, ct_n, a11, a01, aB2, bitA, nlt, nle, neq, dlT, dlF, deT, deF, dqT, dqF, nN, inb, nsb, ndv, nrm, if_true, if_false, ite_true, ite_false, true_and, and_true, and_self, and_false, false_and, or_true, true_or, or_false, false_or, or_self, ↓reduceIte, eq_self, Nat.reduceAdd, Nat.reduceMul, Nat.reduceSub, Nat.reduceDiv, Nat.reduceMod, Nat.zero_add, Nat.mul_zero, not_true_eq_false, not_false_eq_true, up_T, up_F, wr_T, wr_F, ngE, ngE', ngL, ngL', ngQ, ngQ', h16, h3, b1]
  rw [k0]
  refine lpX (n := n) (σ := mm_I × Option mm_V) (fun i s => Rn (d + 5) q_H_check 7 [some (.inr (11, 0)), some (.inl (nI n)), some (.inl (nI m)), some (.inl (nI i)), s.2] [] s.1) (fun i s => RepC 2 (yrs B i) s.1 ∧ Fix s.1 ∧ fr (fP 2) (mm_up I 11 0 16 (nI 0)) s.1 ∧ ∀ k, k < 2 * i → k < m ∧ T k = dvB B k) (fun q => ∃ I', q = some (some (.inl (chB B T n m)), (sh0, I')) ∧ Fix I' ∧ fr (fP 2) (mm_up I 11 0 16 (nI 0)) I') ?_ ?_ 0 (I1, none) (Nat.zero_le _) ⟨b2, b3, fr_mono b4 (fun k i q => Or.inl q), fun k hk => by omega⟩
  · rintro i ⟨J, v⟩ hi ⟨j1, j2, j3, j4⟩
    dsimp only at j1 j2 j3 j4 ⊢
    obtain ⟨J', p1, p2, p3, p4⟩ := s_Hills_passYear d 2 (yrs B i) J j1 j2 (yrs_g g i (by omega)) (by decide)
    have gy := yrs_g g (i + 1) (by omega)
    have wd := s_Hills_widths (d + 4) 2 (yrs B (i + 1)) J' p2 gy
    have pu : J' 3 2 7 = nI (yrs B (i + 1) 0 0 10) := p2.1.2.2.2.1
    have fJ := fr_tr j3 p4
    have hT' : ∀ k, k < m → J' 46 0 k = T k := fun k hk => by rw [fJ 46 0 (by unfold fP wk5 hc; omega), e0 46 0 (by decide)]; exact hT k hk
    have hle : 2 * i ≤ m := by
      rcases Nat.eq_zero_or_pos i with z | z
      · omega
      · have := (j4 (2 * i - 1) (by omega)).1; omega
    have d0 : dvB B (2 * i) = nI (wdS (yrs B (i + 1))) := by unfold dvB; rw [if_pos (by omega), show 2 * i / 2 = i by omega]
    have d1 : dvB B (2 * i + 1) = nI (yrs B (i + 1) 0 0 10) := by unfold dvB; rw [if_neg (by omega), show (2 * i + 1) / 2 = i by omega]
    by_cases c1 : 2 * i < m
    · have t1 := hT' _ c1
      by_cases c2 : T (2 * i) = dvB B (2 * i)
      · by_cases c3 : 2 * i + 1 < m
        · have t2 := hT' _ c3
          by_cases c4 : T (2 * i + 1) = dvB B (2 * i + 1)
          · right
            refine ⟨(J', some (.inl (nI (2 * i)))), ⟨p2, p3, fJ, fun k hk => ?_⟩, ?_⟩
            · by_cases z : k < 2 * i
              · exact j4 k z
              · rcases (show k = 2 * i ∨ k = 2 * i + 1 by omega) with z | z <;> subst z
                · exact ⟨c1, c2⟩
                · exact ⟨c3, c4⟩
            · dsimp only
              rw [c2, d0] at t1
              rw [c4, d1] at t2
              unfold wdS at t1
              simp (disch := omega) only [e_H_check_8, e_H_check_9, e_H_check_10, e_H_check_11, e_H_check_13, e_H_check_14, e_H_check_16, e_H_check_7 (x3 := nI i), lit, nad, nml, bd_s, ct_s, ct_n, a11, a01, aB2, bitA, nlt, nle, neq, dlT, dlF, deT, deF, dqT, dqF, nN, inb, nsb, ndv, nrm, if_true, if_false, ite_true, ite_false, true_and, and_true, and_self, and_false, false_and, or_true, true_or, or_false, false_or, or_self, ↓reduceIte, eq_self, Nat.reduceAdd, Nat.reduceMul, Nat.reduceSub, Nat.reduceDiv, Nat.reduceMod, Nat.zero_add, Nat.mul_zero, not_true_eq_false, not_false_eq_true, up_T, up_F, wr_T, wr_F, ngE, ngE', ngL, ngL', ngQ, ngQ', p1, wd, t1, t2, pu]
          · left
            refine ⟨J', ?_, p3, fJ⟩
            rw [chB_some c3 (fun k hk => ?_) (by omega) (Or.inr c4)]
            · rw [c2, d0] at t1
              unfold wdS at t1
              have c5 : ¬ T (2 * i + 1) = nI (yrs B (i + 1) 0 0 10) := by rw [← d1]; exact c4
              simp (disch := omega) only [e_H_check_8, e_H_check_9, e_H_check_10, e_H_check_11, e_H_check_13, e_H_check_14, e_H_check_15, e_H_check_7 (x3 := nI i), lit, nad, nml, bd_s, ct_s, ct_n, a11, a01, aB2, bitA, nlt, nle, neq, dlT, dlF, deT, deF, dqT, dqF, nN, inb, nsb, ndv, nrm, if_true, if_false, ite_true, ite_false, true_and, and_true, and_self, and_false, false_and, or_true, true_or, or_false, false_or, or_self, ↓reduceIte, eq_self, Nat.reduceAdd, Nat.reduceMul, Nat.reduceSub, Nat.reduceDiv, Nat.reduceMod, Nat.zero_add, Nat.mul_zero, not_true_eq_false, not_false_eq_true, up_T, up_F, wr_T, wr_F, ngE, ngE', ngL, ngL', ngQ, ngQ', p1, wd, t1, t2, pu, c5]
              rw [show 2 + 2 * i = 1 + (2 * i + 1) by omega]
            · by_cases z : k < 2 * i
              · exact (j4 k z).2
              · rw [show k = 2 * i by omega]; exact c2
        · left
          refine ⟨J', ?_, p3, fJ⟩
          rw [chB_none (by omega) (fun k hk => ?_), if_pos (by omega)]
          · rw [c2, d0] at t1
            unfold wdS at t1
            simp (disch := omega) only [e_H_check_8, e_H_check_9, e_H_check_10, e_H_check_11, e_H_check_13, e_H_check_15, e_H_check_7 (x3 := nI i), lit, nad, nml, bd_s, ct_s, ct_n, a11, a01, aB2, bitA, nlt, nle, neq, dlT, dlF, deT, deF, dqT, dqF, nN, inb, nsb, ndv, nrm, if_true, if_false, ite_true, ite_false, true_and, and_true, and_self, and_false, false_and, or_true, true_or, or_false, false_or, or_self, ↓reduceIte, eq_self, Nat.reduceAdd, Nat.reduceMul, Nat.reduceSub, Nat.reduceDiv, Nat.reduceMod, Nat.zero_add, Nat.mul_zero, not_true_eq_false, not_false_eq_true, up_T, up_F, wr_T, wr_F, ngE, ngE', ngL, ngL', ngQ, ngQ', p1, wd, t1]
            rw [show 2 + 2 * i = 1 + m by omega]
          · by_cases z : k < 2 * i
            · exact (j4 k z).2
            · rw [show k = 2 * i by omega]; exact c2
      · left
        refine ⟨J', ?_, p3, fJ⟩
        rw [chB_some c1 (fun k hk => (j4 k hk).2) (by omega) (Or.inr c2)]
        have c5 : ¬ T (2 * i) = nI (sm (fun p => yrs B (i + 1) 1 p 5) (yrs B (i + 1) 0 0 0)) := by
          have := c2
          rw [d0] at this
          exact this
        simp (disch := omega) only [e_H_check_8, e_H_check_9, e_H_check_10, e_H_check_11, e_H_check_12, e_H_check_7 (x3 := nI i), lit, nad, nml, bd_s, ct_s, ct_n, a11, a01, aB2, bitA, nlt, nle, neq, dlT, dlF, deT, deF, dqT, dqF, nN, inb, nsb, ndv, nrm, if_true, if_false, ite_true, ite_false, true_and, and_true, and_self, and_false, false_and, or_true, true_or, or_false, false_or, or_self, ↓reduceIte, eq_self, Nat.reduceAdd, Nat.reduceMul, Nat.reduceSub, Nat.reduceDiv, Nat.reduceMod, Nat.zero_add, Nat.mul_zero, not_true_eq_false, not_false_eq_true, up_T, up_F, wr_T, wr_F, ngE, ngE', ngL, ngL', ngQ, ngQ', p1, wd, t1, c5]
    · left
      refine ⟨J', ?_, p3, fJ⟩
      rw [chB_none (by omega) (fun k hk => (j4 k (by omega)).2), if_pos (by omega)]
      simp (disch := omega) only [e_H_check_8, e_H_check_9, e_H_check_12, e_H_check_7 (x3 := nI i), lit, nad, nml, bd_s, ct_s, ct_n, a11, a01, aB2, bitA, nlt, nle, neq, dlT, dlF, deT, deF, dqT, dqF, nN, inb, nsb, ndv, nrm, if_true, if_false, ite_true, ite_false, true_and, and_true, and_self, and_false, false_and, or_true, true_or, or_false, false_or, or_self, ↓reduceIte, eq_self, Nat.reduceAdd, Nat.reduceMul, Nat.reduceSub, Nat.reduceDiv, Nat.reduceMod, Nat.zero_add, Nat.mul_zero, not_true_eq_false, not_false_eq_true, up_T, up_F, wr_T, wr_F, ngE, ngE', ngL, ngL', ngQ, ngQ', p1]
      rw [show 2 * i = m by omega]
  · rintro ⟨J, v⟩ ⟨j1, j2, j3, j4⟩
    dsimp only at j1 j2 j3 j4 ⊢
    refine ⟨J, ?_, j2, j3⟩
    have hle : 2 * n ≤ m := by have := (j4 (2 * n - 1) (by omega)).1; omega
    by_cases c1 : 2 * n < m
    · rw [chB_some c1 (fun k hk => (j4 k hk).2) (Nat.le_refl _) (Or.inl rfl)]
      simp (disch := omega) only [e_H_check_7, e_H_check_17, e_H_check_18, e_H_check_20, lit, nad, nml, bd_s, ct_s, ct_n, a11, a01, aB2, bitA, nlt, nle, neq, dlT, dlF, deT, deF, dqT, dqF, nN, inb, nsb, ndv, nrm, if_true, if_false, ite_true, ite_false, true_and, and_true, and_self, and_false, false_and, or_true, true_or, or_false, false_or, or_self, ↓reduceIte, eq_self, Nat.reduceAdd, Nat.reduceMul, Nat.reduceSub, Nat.reduceDiv, Nat.reduceMod, Nat.zero_add, Nat.mul_zero, not_true_eq_false, not_false_eq_true, up_T, up_F, wr_T, wr_F, ngE, ngE', ngL, ngL', ngQ, ngQ']
    · rw [chB_none (by omega) (fun k hk => (j4 k (by omega)).2), if_neg (by omega)]
      simp (disch := omega) only [e_H_check_7, e_H_check_17, e_H_check_19, e_H_check_20, lit, nad, nml, bd_s, ct_s, ct_n, a11, a01, aB2, bitA, nlt, nle, neq, dlT, dlF, deT, deF, dqT, dqF, nN, inb, nsb, ndv, nrm, if_true, if_false, ite_true, ite_false, true_and, and_true, and_self, and_false, false_and, or_true, true_or, or_false, false_or, or_self, ↓reduceIte, eq_self, Nat.reduceAdd, Nat.reduceMul, Nat.reduceSub, Nat.reduceDiv, Nat.reduceMod, Nat.zero_add, Nat.mul_zero, not_true_eq_false, not_false_eq_true, up_T, up_F, wr_T, wr_F, ngE, ngE', ngL, ngL', ngQ, ngQ']
theorem s_M_check (d n m : Nat) (T : Nat → Int32) (A B : mm_A) (I : mm_I) (hA : RepR 0 A I) (gA : Good A) (hR : RepR 1 B I) (g : Good B) (hy : B 0 0 11 ≤ 200) (hn : 1 ≤ n) (hn2 : n ≤ 20) (hm : m ≤ 60) (h47 : I 12 0 47 = nI m) (h3 : I 12 0 3 = nI 1) (h8 : I 12 0 8 = -nI 1) (hT : ∀ k, k < m → I 71 0 k = T k) : ∃ I', Sn (d + 7) q_M_check [.inr (12, 0), .inl (nI n)] I = some (some (.inl (chB B T n m)), (sh0, I')) ∧ RepR 0 A I' ∧ fr dM' (mm_up I 12 0 47 (nI 0)) I' ∧ k12 (mm_up I 12 0 47 (nI 0)) I' := by
  have e0 : ∀ k i, k ≠ 12 → (mm_up I 12 0 47 (nI 0)) k i = I k i := fun k i h => by funext j; exact up_F (by omega)
  have hA0 : RepR 0 A (mm_up I 12 0 47 (nI 0)) := RepR_o hA (e0 47 0 (by decide))
  have hR0 : RepR 1 B (mm_up I 12 0 47 (nI 0)) := RepR_o hR (e0 47 1 (by decide))
  have h30 : (mm_up I 12 0 47 (nI 0)) 12 0 3 = nI 1 := by rw [up_F (by omega)]; exact h3
  have h80 : (mm_up I 12 0 47 (nI 0)) 12 0 8 = -nI 1 := by rw [up_F (by omega)]; exact h8
  have hT0 : ∀ k, k < m → (mm_up I 12 0 47 (nI 0)) 71 0 k = T k := fun k hk => by rw [e0 71 0 (by decide)]; exact hT k hk
  have k00 : Sn (d + 7) q_M_check [.inr (12, 0), .inl (nI n)] I = Rn (d + 6) q_M_check 5 [some (.inr (12, 0)), some (.inl (nI n)), some (.inl (nI m)), none] [] (mm_up I 12 0 47 (nI 0)) := by
    simp (disch := omega) only [n_M_check, e_M_check_0, e_M_check_1, e_M_check_3, s_M_in, lit, nad, nml, bd_s, ct_s, ct_n, a11, a01, aB2, bitA, nlt, nle, neq, dlT, dlF, deT, deF, dqT, dqF, nN, inb, nsb, ndv, nrm, if_true, if_false, ite_true, ite_false, true_and, and_true, and_self, and_false, false_and, or_true, true_or, or_false, false_or, or_self, ↓reduceIte, eq_self, Nat.reduceAdd, Nat.reduceMul, Nat.reduceSub, Nat.reduceDiv, Nat.reduceMod, Nat.zero_add, Nat.mul_zero, not_true_eq_false, not_false_eq_true, up_T, up_F, wr_T, wr_F, ngE, ngE', ngL, ngL', ngQ, ngQ', h47, h3]
  rw [k00]
  generalize mm_up I 12 0 47 (nI 0) = I0 at *
  have c1 := s_M_copyAll (d + 5) 0 2 I0 (by decide)
  have hR1 : RepR 1 B (wr I0 47 2 0 1941 (fun j => I0 47 0 j)) := RepR_o hR0 (by funext j; exact wr_F (by omega))
  have a1 : ∀ j, j < 1941 → (wr I0 47 2 0 1941 (fun j => I0 47 0 j)) 47 2 j = I0 47 0 j := fun j hj => by rw [wr_T (by omega), Nat.sub_zero]
  have f1 : fr dM' I0 (wr I0 47 2 0 1941 (fun j => I0 47 0 j)) := fr_wr (fr_rf _ _) (by unfold dM'; omega)
  have k1 : k12 I0 (wr I0 47 2 0 1941 (fun j => I0 47 0 j)) := k12_of (by funext i j; exact wr_F (by omega))
  generalize wr I0 47 2 0 1941 (fun j => I0 47 0 j) = I1 at *
  have c2 := s_M_copyAll (d + 5) 1 0 I1 (by decide)
  have hR2 : RepR 0 B (wr I1 47 0 0 1941 (fun j => I1 47 1 j)) := RepR_cp hR1 g (fun j hj => by rw [wr_T (by omega), Nat.sub_zero])
  have a2 : ∀ j, j < 1941 → (wr I1 47 0 0 1941 (fun j => I1 47 1 j)) 47 2 j = I0 47 0 j := fun j hj => by rw [wr_F (by omega)]; exact a1 j hj
  have f2 : fr dM' I0 (wr I1 47 0 0 1941 (fun j => I1 47 1 j)) := fr_wr f1 (by unfold dM'; omega)
  have k2 : k12 I0 (wr I1 47 0 0 1941 (fun j => I1 47 1 j)) := k12_tr k1 (k12_of (by funext i j; exact wr_F (by omega)))
  have k3 : Rn (d + 6) q_M_check 5 [some (.inr (12, 0)), some (.inl (nI n)), some (.inl (nI m)), none] [] I0 = Rn (d + 6) q_M_check 8 [some (.inr (12, 0)), some (.inl (nI n)), some (.inl (nI m)), some (.inl (nI 0))] [] (wr I1 47 0 0 1941 (fun j => I1 47 1 j)) := by
    simp (disch := omega) only [e_M_check_5, e_M_check_6, e_M_check_7, lit, c1, c2, bd_s, ct_n]
  rw [k3]
  generalize wr I1 47 0 0 1941 (fun j => I1 47 1 j) = I2 at *
  have l1 := lpX (n := n) (σ := mm_I) (fun i s => Rn (d + 6) q_M_check 8 [some (.inr (12, 0)), some (.inl (nI n)), some (.inl (nI m)), some (.inl (nI i))] [] s) (fun i s => RepR 0 (yrs B i) s ∧ (∀ j, j < 1941 → s 47 2 j = I0 47 0 j) ∧ fr dM' I0 s ∧ k12 I0 s ∧ ∀ k, k < 2 * i → s 72 0 k = dvB B k) (fun q => ∃ J, (RepR 0 A J ∧ fr dM' I0 J ∧ k12 I0 J ∧ ∀ k, k < 2 * n → J 72 0 k = dvB B k) ∧ q = Rn (d + 6) q_M_check 14 [some (.inr (12, 0)), some (.inl (nI n)), some (.inl (nI m)), some (.inl (nI 0))] [] J) (by
    rintro i J hi ⟨j1, j2, j3, j4, j5⟩
    obtain ⟨J', p1, p2, p3, p4⟩ := s_M_aYear d (yrs B i) J j1 (yrs_g g i (by omega)) (by rw [j4.2.1]; exact h80)
    have gy := yrs_g g (i + 1) (by omega)
    have wd := s_M_widths (d + 4) (yrs B (i + 1)) J' p2 gy
    have pu : J' 47 0 10 = nI (yrs B (i + 1) 0 0 10) := p2.1 10 (by decide)
    have d0 : dvB B (2 * i) = nI (wdS (yrs B (i + 1))) := by unfold dvB; rw [if_pos (by omega), show 2 * i / 2 = i by omega]
    have d1 : dvB B (2 * i + 1) = nI (yrs B (i + 1) 0 0 10) := by unfold dvB; rw [if_neg (by omega), show (2 * i + 1) / 2 = i by omega]
    refine Or.inr ⟨mm_up (mm_up J' 72 0 (2 * i) (nI (wdS (yrs B (i + 1))))) 72 0 (2 * i + 1) (nI (yrs B (i + 1) 0 0 10)), ⟨RepR_o p2 (by funext j; simp (disch := omega) only [up_F]), fun j hj => ?_, fr_up (fr_up (fr_tr j3 (fr_mono p4 (fun k i q => gPM q))) (by unfold dM'; omega)) (by unfold dM'; omega), k12_tr (k12_tr j4 (k12_ex p3 (by decide))) (k12_of (by funext i j; simp (disch := omega) only [up_F])), fun k hk => ?_⟩, ?_⟩
    · rw [up_F (by omega), up_F (by omega), p4 47 2 (by unfold gP; omega)]; exact j2 j hj
    · by_cases z : k < 2 * i
      · rw [up_F (by omega), up_F (by omega), p4 72 0 (by unfold gP; omega)]; exact j5 k z
      · rcases (show k = 2 * i ∨ k = 2 * i + 1 by omega) with z | z <;> subst z
        · rw [up_F (by omega), up_s, d0]
        · rw [up_s, d1]
    · unfold wdS
      simp (disch := omega) only [e_M_check_9, e_M_check_10, e_M_check_11, e_M_check_8 (x3 := nI i), lit, nad, nml, bd_s, ct_s, ct_n, a11, a01, aB2, bitA, nlt, nle, neq, dlT, dlF, deT, deF, dqT, dqF, nN, inb, nsb, ndv, nrm, if_true, if_false, ite_true, ite_false, true_and, and_true, and_self, and_false, false_and, or_true, true_or, or_false, false_or, or_self, ↓reduceIte, eq_self, Nat.reduceAdd, Nat.reduceMul, Nat.reduceSub, Nat.reduceDiv, Nat.reduceMod, Nat.zero_add, Nat.mul_zero, not_true_eq_false, not_false_eq_true, up_T, up_F, wr_T, wr_F, ngE, ngE', ngL, ngL', ngQ, ngQ', p1, wd, pu]) (by
    rintro J ⟨j1, j2, j3, j4, j5⟩
    have c3 := s_M_copyAll (d + 5) 2 0 J (by decide)
    refine ⟨wr J 47 0 0 1941 (fun j => J 47 2 j), ⟨RepR_cp hA0 gA (fun j hj => by rw [wr_T (by omega), Nat.sub_zero]; exact j2 j hj), fr_wr j3 (by unfold dM'; omega), k12_tr j4 (k12_of (by funext i j; exact wr_F (by omega))), fun k hk => by rw [wr_F (by omega)]; exact j5 k hk⟩, ?_⟩
    simp (disch := omega) only [e_M_check_8, e_M_check_12, e_M_check_13, lit, nlt, dlF, if_false, c3, bd_s, ct_n]) 0 I2 (Nat.zero_le _) ⟨hR2, a2, f2, k2, fun k hk => by omega⟩
  obtain ⟨J, ⟨j1, j2, j3, j4⟩, k4⟩ := l1
  rw [k4]
  have jT : ∀ k, k < m → J 71 0 k = T k := fun k hk => by rw [j2 71 0 (by unfold dM'; omega)]; exact hT0 k hk
  refine lpX (n := m) (σ := Unit) (fun i _ => Rn (d + 6) q_M_check 14 [some (.inr (12, 0)), some (.inl (nI n)), some (.inl (nI m)), some (.inl (nI i))] [] J) (fun i _ => i ≤ 2 * n ∧ ∀ k, k < i → T k = dvB B k) (fun q => ∃ I', q = some (some (.inl (chB B T n m)), (sh0, I')) ∧ RepR 0 A I' ∧ fr dM' I0 I' ∧ k12 I0 I') ?_ ?_ 0 () (Nat.zero_le _) ⟨Nat.zero_le _, fun k hk => by omega⟩
  · rintro i _ hi ⟨v1, v2⟩
    by_cases c4 : i = 2 * n
    · left
      refine ⟨J, ?_, j1, j2, j3⟩
      rw [chB_some hi v2 v1 (Or.inl c4.symm)]
      simp (disch := omega) only [e_M_check_15, e_M_check_17, e_M_check_14 (x3 := nI i), lit, nad, nml, bd_s, ct_s, ct_n, a11, a01, aB2, bitA, nlt, nle, neq, dlT, dlF, deT, deF, dqT, dqF, nN, inb, nsb, ndv, nrm, if_true, if_false, ite_true, ite_false, true_and, and_true, and_self, and_false, false_and, or_true, true_or, or_false, false_or, or_self, ↓reduceIte, eq_self, Nat.reduceAdd, Nat.reduceMul, Nat.reduceSub, Nat.reduceDiv, Nat.reduceMod, Nat.zero_add, Nat.mul_zero, not_true_eq_false, not_false_eq_true, up_T, up_F, wr_T, wr_F, ngE, ngE', ngL, ngL', ngQ, ngQ']
    · have t1 := jT i hi
      have t2 := j4 i (by omega)
      by_cases c5 : T i = dvB B i
      · right
        refine ⟨(), ⟨by omega, fun k hk => ?_⟩, ?_⟩
        · by_cases z : k < i
          · exact v2 k z
          · rw [show k = i by omega]; exact c5
        · simp (disch := omega) only [e_M_check_15, e_M_check_16, e_M_check_18, e_M_check_14 (x3 := nI i), lit, nad, nml, bd_s, ct_s, ct_n, a11, a01, aB2, bitA, nlt, nle, neq, dlT, dlF, deT, deF, dqT, dqF, nN, inb, nsb, ndv, nrm, if_true, if_false, ite_true, ite_false, true_and, and_true, and_self, and_false, false_and, or_true, true_or, or_false, false_or, or_self, ↓reduceIte, eq_self, Nat.reduceAdd, Nat.reduceMul, Nat.reduceSub, Nat.reduceDiv, Nat.reduceMod, Nat.zero_add, Nat.mul_zero, not_true_eq_false, not_false_eq_true, up_T, up_F, wr_T, wr_F, ngE, ngE', ngL, ngL', ngQ, ngQ', t1, t2, c5]
      · left
        refine ⟨J, ?_, j1, j2, j3⟩
        rw [chB_some hi v2 v1 (Or.inr c5)]
        simp (disch := omega) only [e_M_check_15, e_M_check_16, e_M_check_17, e_M_check_14 (x3 := nI i), lit, nad, nml, bd_s, ct_s, ct_n, a11, a01, aB2, bitA, nlt, nle, neq, dlT, dlF, deT, deF, dqT, dqF, nN, inb, nsb, ndv, nrm, if_true, if_false, ite_true, ite_false, true_and, and_true, and_self, and_false, false_and, or_true, true_or, or_false, false_or, or_self, ↓reduceIte, eq_self, Nat.reduceAdd, Nat.reduceMul, Nat.reduceSub, Nat.reduceDiv, Nat.reduceMod, Nat.zero_add, Nat.mul_zero, not_true_eq_false, not_false_eq_true, up_T, up_F, wr_T, wr_F, ngE, ngE', ngL, ngL', ngQ, ngQ', t1, t2, c5]
  · rintro _ ⟨v1, v2⟩
    refine ⟨J, ?_, j1, j2, j3⟩
    rw [chB_none v1 v2]
    by_cases c4 : m < 2 * n
    · simp (disch := omega) only [e_M_check_14, e_M_check_19, e_M_check_20, e_M_check_22, lit, nad, nml, bd_s, ct_s, ct_n, a11, a01, aB2, bitA, nlt, nle, neq, dlT, dlF, deT, deF, dqT, dqF, nN, inb, nsb, ndv, nrm, if_true, if_false, ite_true, ite_false, true_and, and_true, and_self, and_false, false_and, or_true, true_or, or_false, false_or, or_self, ↓reduceIte, eq_self, Nat.reduceAdd, Nat.reduceMul, Nat.reduceSub, Nat.reduceDiv, Nat.reduceMod, Nat.zero_add, Nat.mul_zero, not_true_eq_false, not_false_eq_true, up_T, up_F, wr_T, wr_F, ngE, ngE', ngL, ngL', ngQ, ngQ']
    · simp (disch := omega) only [e_M_check_14, e_M_check_19, e_M_check_21, e_M_check_22, lit, nad, nml, bd_s, ct_s, ct_n, a11, a01, aB2, bitA, nlt, nle, neq, dlT, dlF, deT, deF, dqT, dqF, nN, inb, nsb, ndv, nrm, if_true, if_false, ite_true, ite_false, true_and, and_true, and_self, and_false, false_and, or_true, true_or, or_false, false_or, or_self, ↓reduceIte, eq_self, Nat.reduceAdd, Nat.reduceMul, Nat.reduceSub, Nat.reduceDiv, Nat.reduceMod, Nat.zero_add, Nat.mul_zero, not_true_eq_false, not_false_eq_true, up_T, up_F, wr_T, wr_F, ngE, ngE', ngL, ngL', ngQ, ngQ']
