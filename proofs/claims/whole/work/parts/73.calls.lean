/-! Calls: set, told, way, without, clear, choose. -/
theorem Ok_set (d : Nat) (t w b : Int32) : Ok (d + 200) q_H_set q_M_set [.inl t, .inl w, .inl b] := by
  rcases ix t with ht | ⟨j, hj, ht⟩
  · refine call_id (fun _ => -nI 1000000001) (fun A I _ _ _ _ => ?_) (fun A I hR _ _ _ => ?_)
    · simp (disch := omega) only [n_H_set, e_H_set_0, e_H_set_1, e_H_set_2, e_H_set_3, e_H_set_4, e_H_set_5, e_H_set_6, e_H_set_7, e_H_set_8, e_H_set_9, e_H_set_10, e_H_set_11, e_H_set_12, e_H_set_13, e_H_set_14, e_H_set_15, e_H_set_16, e_H_set_17, s_H_isStretchN _ _ _ ht, lit, nad, nml, bd_s, ct_s, ct_n, a11, a01, aB2, bitA, nlt, nle, neq, dlT, dlF, deT, deF, dqT, dqF, nN, inb, nsb, ndv, nrm, if_true, if_false, ite_true, ite_false, true_and, and_true, and_self, and_false, false_and, or_true, true_or, or_false, false_or, or_self, ↓reduceIte, eq_self, Nat.reduceAdd, Nat.reduceMul, Nat.reduceSub, Nat.reduceDiv, Nat.reduceMod, Nat.zero_add, Nat.mul_zero, not_true_eq_false, not_false_eq_true, up_T, up_F, wr_T, wr_F, ngE, ngE', ngL, ngL', ngQ, ngQ']
    · by_cases h1 : w = nI 5 <;> by_cases h2 : w = nI 7 <;> by_cases h3 : nI 1 ≤ b ∧ b ≤ nI 9999 <;> by_cases h4 : nI 0 ≤ b ∧ b ≤ nI 1 <;> simp (disch := omega) only [n_M_set, e_M_set_0, e_M_set_1, e_M_set_2, e_M_set_3, e_M_set_4, e_M_set_5, e_M_set_6, e_M_set_7, e_M_set_8, e_M_set_9, e_M_set_10, e_M_set_11, e_M_set_12, e_M_set_13, s_M_in, s_M_isPathN _ _ _ ht, lit, nad, nml, bd_s, ct_s, ct_n, a11, a01, aB2, bitA, nlt, nle, neq, dlT, dlF, deT, deF, dqT, dqF, nN, inb, nsb, ndv, nrm, if_true, if_false, ite_true, ite_false, true_and, and_true, and_self, and_false, false_and, or_true, true_or, or_false, false_or, or_self, ↓reduceIte, eq_self, Nat.reduceAdd, Nat.reduceMul, Nat.reduceSub, Nat.reduceDiv, Nat.reduceMod, Nat.zero_add, Nat.mul_zero, not_true_eq_false, not_false_eq_true, up_T, up_F, wr_T, wr_F, ngE, ngE', ngL, ngL', ngQ, ngQ', h1, h2, h3, h4]
  subst ht
  by_cases h1 : w = nI 5 ∧ (nI 1 ≤ b ∧ b ≤ nI 9999)
  · obtain ⟨hw, hb⟩ := h1
    subst hw
    obtain ⟨k, k0, k1, k2⟩ := wof hb (by decide) (by decide)
    subst k2
    refine call_hill (fun A => if j < A 0 0 0 then nI (A 1 j 5) else -nI 1000000001) (fun A => if j < A 0 0 0 then sA A 1 j 5 k else A) (fun A I hC F g _ => ?_) (fun A I hR g _ _ => ?_) (fun A g h => ?_)
    · have hn := g.1.1
      have hh := s_H_isStretch (d + 197) j A I hC g hj
      by_cases e : j < A 0 0 0
      · simp only [if_pos e] at hh ⊢
        have h5 := (c0_st hC e).2.2.2.2.2.1
        refine ⟨mm_up I 8 j 6 (nI k), ?_, RepC_st0 (c := 5) hC e (by decide), Fix_up F (by omega), fr_up (fr_rf _ _) (by unfold dC hc; omega)⟩
        simp (disch := omega) only [n_H_set, e_H_set_0, e_H_set_1, e_H_set_2, e_H_set_3, e_H_set_4, e_H_set_5, e_H_set_6, e_H_set_7, e_H_set_8, e_H_set_9, e_H_set_10, e_H_set_11, e_H_set_12, e_H_set_13, e_H_set_14, e_H_set_15, e_H_set_16, e_H_set_17, s_H_within, lit, nad, nml, bd_s, ct_s, ct_n, a11, a01, aB2, bitA, nlt, nle, neq, dlT, dlF, deT, deF, dqT, dqF, nN, inb, nsb, ndv, nrm, if_true, if_false, ite_true, ite_false, true_and, and_true, and_self, and_false, false_and, or_true, true_or, or_false, false_or, or_self, ↓reduceIte, eq_self, Nat.reduceAdd, Nat.reduceMul, Nat.reduceSub, Nat.reduceDiv, Nat.reduceMod, Nat.zero_add, Nat.mul_zero, not_true_eq_false, not_false_eq_true, up_T, up_F, wr_T, wr_F, ngE, ngE', ngL, ngL', ngQ, ngQ', hh, h5]
      · simp only [if_neg e] at hh ⊢
        refine ⟨I, ?_, hC, F, fr_rf _ _⟩
        simp (disch := omega) only [n_H_set, e_H_set_0, e_H_set_1, e_H_set_2, e_H_set_3, e_H_set_4, e_H_set_5, e_H_set_6, e_H_set_7, e_H_set_8, e_H_set_9, e_H_set_10, e_H_set_11, e_H_set_12, e_H_set_13, e_H_set_14, e_H_set_15, e_H_set_16, e_H_set_17, s_H_within, lit, nad, nml, bd_s, ct_s, ct_n, a11, a01, aB2, bitA, nlt, nle, neq, dlT, dlF, deT, deF, dqT, dqF, nN, inb, nsb, ndv, nrm, if_true, if_false, ite_true, ite_false, true_and, and_true, and_self, and_false, false_and, or_true, true_or, or_false, false_or, or_self, ↓reduceIte, eq_self, Nat.reduceAdd, Nat.reduceMul, Nat.reduceSub, Nat.reduceDiv, Nat.reduceMod, Nat.zero_add, Nat.mul_zero, not_true_eq_false, not_false_eq_true, up_T, up_F, wr_T, wr_F, ngE, ngE', ngL, ngL', ngQ, ngQ', hh]
    · have hn := g.1.1
      have hh := s_M_isPath (d + 197) j A I hR g hj
      by_cases e : j < A 0 0 0
      · simp only [if_pos e] at hh ⊢
        have o5 := s_M_of9 (d + 198) j 5 A I hR g e (by decide)
        refine ⟨mm_up I 47 0 (12 + 9 * j + 5) (nI k), ?_, RepR_st (c := 5) hR g e (by decide), fr_up (fr_rf _ _) (by unfold dM'; omega), k12_up (by decide)⟩
        simp (disch := omega) only [n_M_set, e_M_set_0, e_M_set_1, e_M_set_2, e_M_set_3, e_M_set_4, e_M_set_5, e_M_set_6, e_M_set_7, e_M_set_8, e_M_set_9, e_M_set_10, e_M_set_11, e_M_set_12, e_M_set_13, s_M_in, lit, nad, nml, bd_s, ct_s, ct_n, a11, a01, aB2, bitA, nlt, nle, neq, dlT, dlF, deT, deF, dqT, dqF, nN, inb, nsb, ndv, nrm, if_true, if_false, ite_true, ite_false, true_and, and_true, and_self, and_false, false_and, or_true, true_or, or_false, false_or, or_self, ↓reduceIte, eq_self, Nat.reduceAdd, Nat.reduceMul, Nat.reduceSub, Nat.reduceDiv, Nat.reduceMod, Nat.zero_add, Nat.mul_zero, not_true_eq_false, not_false_eq_true, up_T, up_F, wr_T, wr_F, ngE, ngE', ngL, ngL', ngQ, ngQ', hh, o5]
      · simp only [if_neg e] at hh ⊢
        refine ⟨I, ?_, hR, fr_rf _ _, k12_rf _⟩
        simp (disch := omega) only [n_M_set, e_M_set_0, e_M_set_1, e_M_set_2, e_M_set_3, e_M_set_4, e_M_set_5, e_M_set_6, e_M_set_7, e_M_set_8, e_M_set_9, e_M_set_10, e_M_set_11, e_M_set_12, e_M_set_13, s_M_in, lit, nad, nml, bd_s, ct_s, ct_n, a11, a01, aB2, bitA, nlt, nle, neq, dlT, dlF, deT, deF, dqT, dqF, nN, inb, nsb, ndv, nrm, if_true, if_false, ite_true, ite_false, true_and, and_true, and_self, and_false, false_and, or_true, true_or, or_false, false_or, or_self, ↓reduceIte, eq_self, Nat.reduceAdd, Nat.reduceMul, Nat.reduceSub, Nat.reduceDiv, Nat.reduceMod, Nat.zero_add, Nat.mul_zero, not_true_eq_false, not_false_eq_true, up_T, up_F, wr_T, wr_F, ngE, ngE', ngL, ngL', ngQ, ngQ', hh]
    · by_cases e : j < A 0 0 0
      · simp only [if_pos e]
        exact ⟨Good_st g (StG_w (stG g e) k0 k1), by rw [sA_o (by decide)]; exact h, by rw [sA_o (by decide)]⟩
      · simp only [if_neg e]
        exact ⟨g, h, trivial⟩
  by_cases h2 : w = nI 7 ∧ (nI 0 ≤ b ∧ b ≤ nI 1)
  · obtain ⟨hw, hb⟩ := h2
    subst hw
    obtain ⟨k, k0, k1, k2⟩ := wof hb (by decide) (by decide)
    subst k2
    refine call_hill (fun A => if j < A 0 0 0 then nI (A 1 j 7) else -nI 1000000001) (fun A => if j < A 0 0 0 then sA A 1 j 7 k else A) (fun A I hC F g _ => ?_) (fun A I hR g _ _ => ?_) (fun A g h => ?_)
    · have hn := g.1.1
      have hh := s_H_isStretch (d + 197) j A I hC g hj
      by_cases e : j < A 0 0 0
      · simp only [if_pos e] at hh ⊢
        have h5 := (c0_st hC e).2.2.2.2.2.2.2.1
        have g7 := (stG g e).2.2.2.2.2.2.2.2.2.2.1
        refine ⟨mm_up I 8 j 8 (nI k), ?_, RepC_st0 (c := 7) hC e (by decide), Fix_up F (by omega), fr_up (fr_rf _ _) (by unfold dC hc; omega)⟩
        rcases (show A 1 j 7 = 0 ∨ A 1 j 7 = 1 by omega) with q | q <;> rw [q] at h5 ⊢ <;> rcases (show k = 0 ∨ k = 1 by omega) with z | z <;> subst z <;> simp (disch := omega) only [n_H_set, e_H_set_0, e_H_set_1, e_H_set_2, e_H_set_3, e_H_set_4, e_H_set_5, e_H_set_6, e_H_set_7, e_H_set_8, e_H_set_9, e_H_set_10, e_H_set_11, e_H_set_12, e_H_set_13, e_H_set_14, e_H_set_15, e_H_set_16, e_H_set_17, s_H_within, lit, nad, nml, bd_s, ct_s, ct_n, a11, a01, aB2, bitA, nlt, nle, neq, dlT, dlF, deT, deF, dqT, dqF, nN, inb, nsb, ndv, nrm, if_true, if_false, ite_true, ite_false, true_and, and_true, and_self, and_false, false_and, or_true, true_or, or_false, false_or, or_self, ↓reduceIte, eq_self, Nat.reduceAdd, Nat.reduceMul, Nat.reduceSub, Nat.reduceDiv, Nat.reduceMod, Nat.zero_add, Nat.mul_zero, not_true_eq_false, not_false_eq_true, up_T, up_F, wr_T, wr_F, ngE, ngE', ngL, ngL', ngQ, ngQ', hh, h5]
      · simp only [if_neg e] at hh ⊢
        refine ⟨I, ?_, hC, F, fr_rf _ _⟩
        simp (disch := omega) only [n_H_set, e_H_set_0, e_H_set_1, e_H_set_2, e_H_set_3, e_H_set_4, e_H_set_5, e_H_set_6, e_H_set_7, e_H_set_8, e_H_set_9, e_H_set_10, e_H_set_11, e_H_set_12, e_H_set_13, e_H_set_14, e_H_set_15, e_H_set_16, e_H_set_17, s_H_within, lit, nad, nml, bd_s, ct_s, ct_n, a11, a01, aB2, bitA, nlt, nle, neq, dlT, dlF, deT, deF, dqT, dqF, nN, inb, nsb, ndv, nrm, if_true, if_false, ite_true, ite_false, true_and, and_true, and_self, and_false, false_and, or_true, true_or, or_false, false_or, or_self, ↓reduceIte, eq_self, Nat.reduceAdd, Nat.reduceMul, Nat.reduceSub, Nat.reduceDiv, Nat.reduceMod, Nat.zero_add, Nat.mul_zero, not_true_eq_false, not_false_eq_true, up_T, up_F, wr_T, wr_F, ngE, ngE', ngL, ngL', ngQ, ngQ', hh]
    · have hn := g.1.1
      have hh := s_M_isPath (d + 197) j A I hR g hj
      by_cases e : j < A 0 0 0
      · simp only [if_pos e] at hh ⊢
        have o5 := s_M_of9 (d + 198) j 7 A I hR g e (by decide)
        refine ⟨mm_up I 47 0 (12 + 9 * j + 7) (nI k), ?_, RepR_st (c := 7) hR g e (by decide), fr_up (fr_rf _ _) (by unfold dM'; omega), k12_up (by decide)⟩
        simp (disch := omega) only [n_M_set, e_M_set_0, e_M_set_1, e_M_set_2, e_M_set_3, e_M_set_4, e_M_set_5, e_M_set_6, e_M_set_7, e_M_set_8, e_M_set_9, e_M_set_10, e_M_set_11, e_M_set_12, e_M_set_13, s_M_in, lit, nad, nml, bd_s, ct_s, ct_n, a11, a01, aB2, bitA, nlt, nle, neq, dlT, dlF, deT, deF, dqT, dqF, nN, inb, nsb, ndv, nrm, if_true, if_false, ite_true, ite_false, true_and, and_true, and_self, and_false, false_and, or_true, true_or, or_false, false_or, or_self, ↓reduceIte, eq_self, Nat.reduceAdd, Nat.reduceMul, Nat.reduceSub, Nat.reduceDiv, Nat.reduceMod, Nat.zero_add, Nat.mul_zero, not_true_eq_false, not_false_eq_true, up_T, up_F, wr_T, wr_F, ngE, ngE', ngL, ngL', ngQ, ngQ', hh, o5]
      · simp only [if_neg e] at hh ⊢
        refine ⟨I, ?_, hR, fr_rf _ _, k12_rf _⟩
        simp (disch := omega) only [n_M_set, e_M_set_0, e_M_set_1, e_M_set_2, e_M_set_3, e_M_set_4, e_M_set_5, e_M_set_6, e_M_set_7, e_M_set_8, e_M_set_9, e_M_set_10, e_M_set_11, e_M_set_12, e_M_set_13, s_M_in, lit, nad, nml, bd_s, ct_s, ct_n, a11, a01, aB2, bitA, nlt, nle, neq, dlT, dlF, deT, deF, dqT, dqF, nN, inb, nsb, ndv, nrm, if_true, if_false, ite_true, ite_false, true_and, and_true, and_self, and_false, false_and, or_true, true_or, or_false, false_or, or_self, ↓reduceIte, eq_self, Nat.reduceAdd, Nat.reduceMul, Nat.reduceSub, Nat.reduceDiv, Nat.reduceMod, Nat.zero_add, Nat.mul_zero, not_true_eq_false, not_false_eq_true, up_T, up_F, wr_T, wr_F, ngE, ngE', ngL, ngL', ngQ, ngQ', hh]
    · by_cases e : j < A 0 0 0
      · simp only [if_pos e]
        exact ⟨Good_st g (StG_s (stG g e) k1), by rw [sA_o (by decide)]; exact h, by rw [sA_o (by decide)]⟩
      · simp only [if_neg e]
        exact ⟨g, h, trivial⟩
  · refine call_id (fun _ => -nI 1000000001) (fun A I hC _ g _ => ?_) (fun A I hR g _ _ => ?_)
    · have hn := g.1.1
      have hh := s_H_isStretch (d + 197) j A I hC g hj
      by_cases e : j < A 0 0 0 <;> simp only [e, if_true, if_false] at hh <;> by_cases q1 : w = nI 5 <;> by_cases q2 : w = nI 7 <;> by_cases q3 : nI 1 ≤ b ∧ b ≤ nI 9999 <;> by_cases q4 : nI 0 ≤ b ∧ b ≤ nI 1 <;> first | (simp (disch := omega) only [n_H_set, e_H_set_0, e_H_set_1, e_H_set_2, e_H_set_3, e_H_set_4, e_H_set_5, e_H_set_6, e_H_set_7, e_H_set_8, e_H_set_9, e_H_set_10, e_H_set_11, e_H_set_12, e_H_set_13, e_H_set_14, e_H_set_15, e_H_set_16, e_H_set_17, s_H_within, lit, nad, nml, bd_s, ct_s, ct_n, a11, a01, aB2, bitA, nlt, nle, neq, dlT, dlF, deT, deF, dqT, dqF, nN, inb, nsb, ndv, nrm, if_true, if_false, ite_true, ite_false, true_and, and_true, and_self, and_false, false_and, or_true, true_or, or_false, false_or, or_self, ↓reduceIte, eq_self, Nat.reduceAdd, Nat.reduceMul, Nat.reduceSub, Nat.reduceDiv, Nat.reduceMod, Nat.zero_add, Nat.mul_zero, not_true_eq_false, not_false_eq_true, up_T, up_F, wr_T, wr_F, ngE, ngE', ngL, ngL', ngQ, ngQ', hh, q1, q2, q3, q4]; done) | (exfalso; exact h1 (And.intro q1 q3)) | (exfalso; exact h2 (And.intro q2 q4))
    · have hn := g.1.1
      have hh := s_M_isPath (d + 197) j A I hR g hj
      by_cases e : j < A 0 0 0 <;> simp only [e, if_true, if_false] at hh <;> by_cases q1 : w = nI 5 <;> by_cases q2 : w = nI 7 <;> by_cases q3 : nI 1 ≤ b ∧ b ≤ nI 9999 <;> by_cases q4 : nI 0 ≤ b ∧ b ≤ nI 1 <;> first | (simp (disch := omega) only [n_M_set, e_M_set_0, e_M_set_1, e_M_set_2, e_M_set_3, e_M_set_4, e_M_set_5, e_M_set_6, e_M_set_7, e_M_set_8, e_M_set_9, e_M_set_10, e_M_set_11, e_M_set_12, e_M_set_13, s_M_in, lit, nad, nml, bd_s, ct_s, ct_n, a11, a01, aB2, bitA, nlt, nle, neq, dlT, dlF, deT, deF, dqT, dqF, nN, inb, nsb, ndv, nrm, if_true, if_false, ite_true, ite_false, true_and, and_true, and_self, and_false, false_and, or_true, true_or, or_false, false_or, or_self, ↓reduceIte, eq_self, Nat.reduceAdd, Nat.reduceMul, Nat.reduceSub, Nat.reduceDiv, Nat.reduceMod, Nat.zero_add, Nat.mul_zero, not_true_eq_false, not_false_eq_true, up_T, up_F, wr_T, wr_F, ngE, ngE', ngL, ngL', ngQ, ngQ', hh, q1, q2, q3, q4]; done) | (exfalso; exact h1 (And.intro q1 q3)) | (exfalso; exact h2 (And.intro q2 q4))
theorem dC_wk {I I' : mm_I} (h : eqo [10, 40, 41, 42, 43] I I') : fr dC I I' := fr_eqo h (by intro k hk i; unfold dC; simp at hk; omega)
theorem dM_fb {I I' : mm_I} (h : eqo [12, 48, 49, 50, 51] I I') : fr dM' I I' := fr_eqo h (by intro k hk i; unfold dM'; simp at hk; omega)
theorem s_H_bootsNow (d p : Nat) (A : mm_A) (I : mm_I) (hC : RepC 0 A I) (F : Fix I) (g : Good A) (hp : p < 16) : ∃ I', Sn (d + 5) q_H_bootsNow [.inr (11, 0), .inl (nI p)] I = some (some (.inl (nI (bo A 99 p))), (sh0, I')) ∧ eqo [10, 40, 41, 42, 43] I I' ∧ ∀ p, p < 16 → I' 43 0 p = nI (bo A 99 p) := by
  obtain ⟨I1, t1, t2, t3⟩ := s_Walk_tread d 0 99 (-nI 1000000005) A I hC F (by decide) g hzN
  refine ⟨I1, ?_, t2, t3⟩
  have := t3 p hp
  simp (disch := omega) only [n_H_bootsNow, e_H_bootsNow_0, e_H_bootsNow_1, lit, nad, nml, bd_s, ct_s, ct_n, a11, a01, aB2, bitA, nlt, nle, neq, dlT, dlF, deT, deF, dqT, dqF, nN, inb, nsb, ndv, nrm, if_true, if_false, ite_true, ite_false, true_and, and_true, and_self, and_false, false_and, or_true, true_or, or_false, false_or, or_self, ↓reduceIte, eq_self, Nat.reduceAdd, Nat.reduceMul, Nat.reduceSub, Nat.reduceDiv, Nat.reduceMod, Nat.zero_add, Nat.mul_zero, not_true_eq_false, not_false_eq_true, up_T, up_F, wr_T, wr_F, ngE, ngE', ngL, ngL', ngQ, ngQ', t1, this]
theorem ngK {x : Int32} {k : Nat} (h : ¬ (nI 0 ≤ x ∧ x ≤ nI 12)) (hk : k ≤ 12) : (x = nI k) = False := eq_false (fun q => h (by rw [q, nle (by decide) (by omega), nle (by omega) (by decide)]; omega))
theorem Ok_told (d : Nat) (t w : Int32) : Ok (d + 200) q_H_told q_M_told [.inl t, .inl w] := by
  rcases ix t with ht | ⟨j, hj, ht⟩
  · refine call_id (fun _ => -nI 1000000001) (fun A I _ _ _ _ => ?_) (fun A I hR _ _ _ => ?_)
    · simp (disch := omega) only [n_H_told, e_H_told_0, e_H_told_1, e_H_told_2, s_H_isStretchN _ _ _ ht, lit, nad, nml, bd_s, ct_s, ct_n, a11, a01, aB2, bitA, nlt, nle, neq, dlT, dlF, deT, deF, dqT, dqF, nN, inb, nsb, ndv, nrm, if_true, if_false, ite_true, ite_false, true_and, and_true, and_self, and_false, false_and, or_true, true_or, or_false, false_or, or_self, ↓reduceIte, eq_self, Nat.reduceAdd, Nat.reduceMul, Nat.reduceSub, Nat.reduceDiv, Nat.reduceMod, Nat.zero_add, Nat.mul_zero, not_true_eq_false, not_false_eq_true, up_T, up_F, wr_T, wr_F, ngE, ngE', ngL, ngL', ngQ, ngQ']
    · simp (disch := omega) only [n_M_told, e_M_told_0, e_M_told_1, e_M_told_2, e_M_told_3, e_M_told_4, e_M_told_5, e_M_told_6, e_M_told_7, e_M_told_8, e_M_told_9, e_M_told_10, e_M_told_11, e_M_told_12, e_M_told_13, e_M_told_14, e_M_told_15, e_M_told_16, e_M_told_17, e_M_told_18, e_M_told_19, e_M_told_20, e_M_told_21, e_M_told_22, e_M_told_23, e_M_told_24, e_M_told_25, e_M_told_26, s_M_isPathN _ _ _ ht, lit, nad, nml, bd_s, ct_s, ct_n, a11, a01, aB2, bitA, nlt, nle, neq, dlT, dlF, deT, deF, dqT, dqF, nN, inb, nsb, ndv, nrm, if_true, if_false, ite_true, ite_false, true_and, and_true, and_self, and_false, false_and, or_true, true_or, or_false, false_or, or_self, ↓reduceIte, eq_self, Nat.reduceAdd, Nat.reduceMul, Nat.reduceSub, Nat.reduceDiv, Nat.reduceMod, Nat.zero_add, Nat.mul_zero, not_true_eq_false, not_false_eq_true, up_T, up_F, wr_T, wr_F, ngE, ngE', ngL, ngL', ngQ, ngQ']
  subst ht
  by_cases h : nI 0 ≤ w ∧ w ≤ nI 12
  · obtain ⟨k, -, k1, k2⟩ := wof h (by decide) (by decide)
    subst k2
    by_cases k9 : k < 9
    · refine call_id (fun A => if j < A 0 0 0 then nI (A 1 j k) else -nI 1000000001) (fun A I hC F g _ => ?_) (fun A I hR g _ _ => ?_)
      · have hn := g.1.1
        have hh := s_H_isStretch (d + 197) j A I hC g hj
        by_cases e : j < A 0 0 0
        · simp only [if_pos e] at hh ⊢
          obtain ⟨h0, h1, h2, h3, h4, h5, h6, h7, h8⟩ := c0_st hC e
          have g7 := (stG g e).2.2.2.2.2.2.2.2.2.2.1
          rcases c9 k9 with q | q | q | q | q | q | q | q | q <;> subst q
          · simp (disch := omega) only [n_H_told, e_H_told_0, e_H_told_1, e_H_told_3, e_H_told_4, lit, nad, nml, bd_s, ct_s, ct_n, a11, a01, aB2, bitA, nlt, nle, neq, dlT, dlF, deT, deF, dqT, dqF, nN, inb, nsb, ndv, nrm, if_true, if_false, ite_true, ite_false, true_and, and_true, and_self, and_false, false_and, or_true, true_or, or_false, false_or, or_self, ↓reduceIte, eq_self, Nat.reduceAdd, Nat.reduceMul, Nat.reduceSub, Nat.reduceDiv, Nat.reduceMod, Nat.zero_add, Nat.mul_zero, not_true_eq_false, not_false_eq_true, up_T, up_F, wr_T, wr_F, ngE, ngE', ngL, ngL', ngQ, ngQ', hh, h0]
          · simp (disch := omega) only [n_H_told, e_H_told_0, e_H_told_1, e_H_told_3, e_H_told_5, lit, nad, nml, bd_s, ct_s, ct_n, a11, a01, aB2, bitA, nlt, nle, neq, dlT, dlF, deT, deF, dqT, dqF, nN, inb, nsb, ndv, nrm, if_true, if_false, ite_true, ite_false, true_and, and_true, and_self, and_false, false_and, or_true, true_or, or_false, false_or, or_self, ↓reduceIte, eq_self, Nat.reduceAdd, Nat.reduceMul, Nat.reduceSub, Nat.reduceDiv, Nat.reduceMod, Nat.zero_add, Nat.mul_zero, not_true_eq_false, not_false_eq_true, up_T, up_F, wr_T, wr_F, ngE, ngE', ngL, ngL', ngQ, ngQ', hh, h1]
          · simp (disch := omega) only [n_H_told, e_H_told_0, e_H_told_1, e_H_told_3, e_H_told_6, lit, nad, nml, bd_s, ct_s, ct_n, a11, a01, aB2, bitA, nlt, nle, neq, dlT, dlF, deT, deF, dqT, dqF, nN, inb, nsb, ndv, nrm, if_true, if_false, ite_true, ite_false, true_and, and_true, and_self, and_false, false_and, or_true, true_or, or_false, false_or, or_self, ↓reduceIte, eq_self, Nat.reduceAdd, Nat.reduceMul, Nat.reduceSub, Nat.reduceDiv, Nat.reduceMod, Nat.zero_add, Nat.mul_zero, not_true_eq_false, not_false_eq_true, up_T, up_F, wr_T, wr_F, ngE, ngE', ngL, ngL', ngQ, ngQ', hh, h2]
          · simp (disch := omega) only [n_H_told, e_H_told_0, e_H_told_1, e_H_told_3, e_H_told_7, lit, nad, nml, bd_s, ct_s, ct_n, a11, a01, aB2, bitA, nlt, nle, neq, dlT, dlF, deT, deF, dqT, dqF, nN, inb, nsb, ndv, nrm, if_true, if_false, ite_true, ite_false, true_and, and_true, and_self, and_false, false_and, or_true, true_or, or_false, false_or, or_self, ↓reduceIte, eq_self, Nat.reduceAdd, Nat.reduceMul, Nat.reduceSub, Nat.reduceDiv, Nat.reduceMod, Nat.zero_add, Nat.mul_zero, not_true_eq_false, not_false_eq_true, up_T, up_F, wr_T, wr_F, ngE, ngE', ngL, ngL', ngQ, ngQ', hh, h3]
          · simp (disch := omega) only [n_H_told, e_H_told_0, e_H_told_1, e_H_told_3, e_H_told_8, lit, nad, nml, bd_s, ct_s, ct_n, a11, a01, aB2, bitA, nlt, nle, neq, dlT, dlF, deT, deF, dqT, dqF, nN, inb, nsb, ndv, nrm, if_true, if_false, ite_true, ite_false, true_and, and_true, and_self, and_false, false_and, or_true, true_or, or_false, false_or, or_self, ↓reduceIte, eq_self, Nat.reduceAdd, Nat.reduceMul, Nat.reduceSub, Nat.reduceDiv, Nat.reduceMod, Nat.zero_add, Nat.mul_zero, not_true_eq_false, not_false_eq_true, up_T, up_F, wr_T, wr_F, ngE, ngE', ngL, ngL', ngQ, ngQ', hh, h4]
          · simp (disch := omega) only [n_H_told, e_H_told_0, e_H_told_1, e_H_told_3, e_H_told_9, lit, nad, nml, bd_s, ct_s, ct_n, a11, a01, aB2, bitA, nlt, nle, neq, dlT, dlF, deT, deF, dqT, dqF, nN, inb, nsb, ndv, nrm, if_true, if_false, ite_true, ite_false, true_and, and_true, and_self, and_false, false_and, or_true, true_or, or_false, false_or, or_self, ↓reduceIte, eq_self, Nat.reduceAdd, Nat.reduceMul, Nat.reduceSub, Nat.reduceDiv, Nat.reduceMod, Nat.zero_add, Nat.mul_zero, not_true_eq_false, not_false_eq_true, up_T, up_F, wr_T, wr_F, ngE, ngE', ngL, ngL', ngQ, ngQ', hh, h5]
          · simp (disch := omega) only [n_H_told, e_H_told_0, e_H_told_1, e_H_told_3, e_H_told_10, lit, nad, nml, bd_s, ct_s, ct_n, a11, a01, aB2, bitA, nlt, nle, neq, dlT, dlF, deT, deF, dqT, dqF, nN, inb, nsb, ndv, nrm, if_true, if_false, ite_true, ite_false, true_and, and_true, and_self, and_false, false_and, or_true, true_or, or_false, false_or, or_self, ↓reduceIte, eq_self, Nat.reduceAdd, Nat.reduceMul, Nat.reduceSub, Nat.reduceDiv, Nat.reduceMod, Nat.zero_add, Nat.mul_zero, not_true_eq_false, not_false_eq_true, up_T, up_F, wr_T, wr_F, ngE, ngE', ngL, ngL', ngQ, ngQ', hh, h6]
          · rcases (show A 1 j 7 = 0 ∨ A 1 j 7 = 1 by omega) with q | q <;> rw [q] at h7 ⊢ <;> simp (disch := omega) only [n_H_told, e_H_told_0, e_H_told_1, e_H_told_3, e_H_told_11, e_H_told_12, e_H_told_13, e_H_told_14, lit, nad, nml, bd_s, ct_s, ct_n, a11, a01, aB2, bitA, nlt, nle, neq, dlT, dlF, deT, deF, dqT, dqF, nN, inb, nsb, ndv, nrm, if_true, if_false, ite_true, ite_false, true_and, and_true, and_self, and_false, false_and, or_true, true_or, or_false, false_or, or_self, ↓reduceIte, eq_self, Nat.reduceAdd, Nat.reduceMul, Nat.reduceSub, Nat.reduceDiv, Nat.reduceMod, Nat.zero_add, Nat.mul_zero, not_true_eq_false, not_false_eq_true, up_T, up_F, wr_T, wr_F, ngE, ngE', ngL, ngL', ngQ, ngQ', hh, h7]
          · simp (disch := omega) only [n_H_told, e_H_told_0, e_H_told_1, e_H_told_3, e_H_told_15, lit, nad, nml, bd_s, ct_s, ct_n, a11, a01, aB2, bitA, nlt, nle, neq, dlT, dlF, deT, deF, dqT, dqF, nN, inb, nsb, ndv, nrm, if_true, if_false, ite_true, ite_false, true_and, and_true, and_self, and_false, false_and, or_true, true_or, or_false, false_or, or_self, ↓reduceIte, eq_self, Nat.reduceAdd, Nat.reduceMul, Nat.reduceSub, Nat.reduceDiv, Nat.reduceMod, Nat.zero_add, Nat.mul_zero, not_true_eq_false, not_false_eq_true, up_T, up_F, wr_T, wr_F, ngE, ngE', ngL, ngL', ngQ, ngQ', hh, h8]
        · simp only [if_neg e] at hh ⊢
          simp (disch := omega) only [n_H_told, e_H_told_0, e_H_told_1, e_H_told_2, lit, nad, nml, bd_s, ct_s, ct_n, a11, a01, aB2, bitA, nlt, nle, neq, dlT, dlF, deT, deF, dqT, dqF, nN, inb, nsb, ndv, nrm, if_true, if_false, ite_true, ite_false, true_and, and_true, and_self, and_false, false_and, or_true, true_or, or_false, false_or, or_self, ↓reduceIte, eq_self, Nat.reduceAdd, Nat.reduceMul, Nat.reduceSub, Nat.reduceDiv, Nat.reduceMod, Nat.zero_add, Nat.mul_zero, not_true_eq_false, not_false_eq_true, up_T, up_F, wr_T, wr_F, ngE, ngE', ngL, ngL', ngQ, ngQ', hh]
      · have hn := g.1.1
        have hh := s_M_isPath (d + 197) j A I hR g hj
        by_cases e : j < A 0 0 0
        · simp only [if_pos e] at hh ⊢
          have o := s_M_of9 (d + 198) j k A I hR g e k9
          simp (disch := omega) only [n_M_told, e_M_told_0, e_M_told_1, e_M_told_2, e_M_told_3, e_M_told_4, e_M_told_5, e_M_told_6, e_M_told_7, s_M_in, lit, nad, nml, bd_s, ct_s, ct_n, a11, a01, aB2, bitA, nlt, nle, neq, dlT, dlF, deT, deF, dqT, dqF, nN, inb, nsb, ndv, nrm, if_true, if_false, ite_true, ite_false, true_and, and_true, and_self, and_false, false_and, or_true, true_or, or_false, false_or, or_self, ↓reduceIte, eq_self, Nat.reduceAdd, Nat.reduceMul, Nat.reduceSub, Nat.reduceDiv, Nat.reduceMod, Nat.zero_add, Nat.mul_zero, not_true_eq_false, not_false_eq_true, up_T, up_F, wr_T, wr_F, ngE, ngE', ngL, ngL', ngQ, ngQ', hh, o]
        · simp only [if_neg e] at hh ⊢
          simp (disch := omega) only [n_M_told, e_M_told_0, e_M_told_1, e_M_told_2, e_M_told_3, e_M_told_4, e_M_told_5, e_M_told_6, e_M_told_7, s_M_in, lit, nad, nml, bd_s, ct_s, ct_n, a11, a01, aB2, bitA, nlt, nle, neq, dlT, dlF, deT, deF, dqT, dqF, nN, inb, nsb, ndv, nrm, if_true, if_false, ite_true, ite_false, true_and, and_true, and_self, and_false, false_and, or_true, true_or, or_false, false_or, or_self, ↓reduceIte, eq_self, Nat.reduceAdd, Nat.reduceMul, Nat.reduceSub, Nat.reduceDiv, Nat.reduceMod, Nat.zero_add, Nat.mul_zero, not_true_eq_false, not_false_eq_true, up_T, up_F, wr_T, wr_F, ngE, ngE', ngL, ngL', ngQ, ngQ', hh]
    · rcases (show k = 9 ∨ k = 10 ∨ k = 11 ∨ k = 12 by omega) with q | q | q | q <;> subst q
      · refine call_id (fun A => if j < A 0 0 0 then nI (effF (A 1 j)) else -nI 1000000001) (fun A I hC F g _ => ?_) (fun A I hR g _ _ => ?_)
        · have hn := g.1.1
          have hh := s_H_isStretch (d + 197) j A I hC g hj
          by_cases e : j < A 0 0 0
          · simp only [if_pos e] at hh ⊢
            have he := s_Stretch_effort (d + 198) j (A 1 j) I (c0_st hC e) (stG g e)
            simp (disch := omega) only [n_H_told, e_H_told_0, e_H_told_1, e_H_told_3, e_H_told_16, e_H_told_17, lit, nad, nml, bd_s, ct_s, ct_n, a11, a01, aB2, bitA, nlt, nle, neq, dlT, dlF, deT, deF, dqT, dqF, nN, inb, nsb, ndv, nrm, if_true, if_false, ite_true, ite_false, true_and, and_true, and_self, and_false, false_and, or_true, true_or, or_false, false_or, or_self, ↓reduceIte, eq_self, Nat.reduceAdd, Nat.reduceMul, Nat.reduceSub, Nat.reduceDiv, Nat.reduceMod, Nat.zero_add, Nat.mul_zero, not_true_eq_false, not_false_eq_true, up_T, up_F, wr_T, wr_F, ngE, ngE', ngL, ngL', ngQ, ngQ', hh, he]
          · simp only [if_neg e] at hh ⊢
            simp (disch := omega) only [n_H_told, e_H_told_0, e_H_told_1, e_H_told_2, lit, nad, nml, bd_s, ct_s, ct_n, a11, a01, aB2, bitA, nlt, nle, neq, dlT, dlF, deT, deF, dqT, dqF, nN, inb, nsb, ndv, nrm, if_true, if_false, ite_true, ite_false, true_and, and_true, and_self, and_false, false_and, or_true, true_or, or_false, false_or, or_self, ↓reduceIte, eq_self, Nat.reduceAdd, Nat.reduceMul, Nat.reduceSub, Nat.reduceDiv, Nat.reduceMod, Nat.zero_add, Nat.mul_zero, not_true_eq_false, not_false_eq_true, up_T, up_F, wr_T, wr_F, ngE, ngE', ngL, ngL', ngQ, ngQ', hh]
        · have hn := g.1.1
          have hh := s_M_isPath (d + 197) j A I hR g hj
          by_cases e : j < A 0 0 0
          · simp only [if_pos e] at hh ⊢
            have he := s_M_effortOf (d + 197) j A I hR g e
            simp (disch := omega) only [n_M_told, e_M_told_0, e_M_told_1, e_M_told_2, e_M_told_3, e_M_told_4, e_M_told_5, e_M_told_6, e_M_told_7, e_M_told_8, e_M_told_9, e_M_told_10, s_M_in, lit, nad, nml, bd_s, ct_s, ct_n, a11, a01, aB2, bitA, nlt, nle, neq, dlT, dlF, deT, deF, dqT, dqF, nN, inb, nsb, ndv, nrm, if_true, if_false, ite_true, ite_false, true_and, and_true, and_self, and_false, false_and, or_true, true_or, or_false, false_or, or_self, ↓reduceIte, eq_self, Nat.reduceAdd, Nat.reduceMul, Nat.reduceSub, Nat.reduceDiv, Nat.reduceMod, Nat.zero_add, Nat.mul_zero, not_true_eq_false, not_false_eq_true, up_T, up_F, wr_T, wr_F, ngE, ngE', ngL, ngL', ngQ, ngQ', hh, he]
          · simp only [if_neg e] at hh ⊢
            simp (disch := omega) only [n_M_told, e_M_told_0, e_M_told_1, e_M_told_2, e_M_told_3, e_M_told_4, e_M_told_5, e_M_told_6, e_M_told_7, s_M_in, lit, nad, nml, bd_s, ct_s, ct_n, a11, a01, aB2, bitA, nlt, nle, neq, dlT, dlF, deT, deF, dqT, dqF, nN, inb, nsb, ndv, nrm, if_true, if_false, ite_true, ite_false, true_and, and_true, and_self, and_false, false_and, or_true, true_or, or_false, false_or, or_self, ↓reduceIte, eq_self, Nat.reduceAdd, Nat.reduceMul, Nat.reduceSub, Nat.reduceDiv, Nat.reduceMod, Nat.zero_add, Nat.mul_zero, not_true_eq_false, not_false_eq_true, up_T, up_F, wr_T, wr_F, ngE, ngE', ngL, ngL', ngQ, ngQ', hh]
      · refine call_hill (fun A => if j < A 0 0 0 then nI (bo A 99 j) else -nI 1000000001) (fun A => A) (fun A I hC F g _ => ?_) (fun A I hR g _ h8 => ?_) (fun A g h => ⟨g, h, rfl⟩)
        · have hn := g.1.1
          have hh := s_H_isStretch (d + 197) j A I hC g hj
          by_cases e : j < A 0 0 0
          · simp only [if_pos e] at hh ⊢
            obtain ⟨I1, b1, b2, -⟩ := s_H_bootsNow (d + 194) j A I hC F g (by omega)
            refine ⟨I1, ?_, RepC_o hC g b2 (by decide), Fix_o F (fun r j _ => by rw [b2 7 (by decide)]), dC_wk b2⟩
            simp (disch := omega) only [n_H_told, e_H_told_0, e_H_told_1, e_H_told_3, e_H_told_18, e_H_told_19, lit, nad, nml, bd_s, ct_s, ct_n, a11, a01, aB2, bitA, nlt, nle, neq, dlT, dlF, deT, deF, dqT, dqF, nN, inb, nsb, ndv, nrm, if_true, if_false, ite_true, ite_false, true_and, and_true, and_self, and_false, false_and, or_true, true_or, or_false, false_or, or_self, ↓reduceIte, eq_self, Nat.reduceAdd, Nat.reduceMul, Nat.reduceSub, Nat.reduceDiv, Nat.reduceMod, Nat.zero_add, Nat.mul_zero, not_true_eq_false, not_false_eq_true, up_T, up_F, wr_T, wr_F, ngE, ngE', ngL, ngL', ngQ, ngQ', hh, b1]
          · simp only [if_neg e] at hh ⊢
            exact ⟨I, by simp (disch := omega) only [n_H_told, e_H_told_0, e_H_told_1, e_H_told_2, lit, nad, nml, bd_s, ct_s, ct_n, a11, a01, aB2, bitA, nlt, nle, neq, dlT, dlF, deT, deF, dqT, dqF, nN, inb, nsb, ndv, nrm, if_true, if_false, ite_true, ite_false, true_and, and_true, and_self, and_false, false_and, or_true, true_or, or_false, false_or, or_self, ↓reduceIte, eq_self, Nat.reduceAdd, Nat.reduceMul, Nat.reduceSub, Nat.reduceDiv, Nat.reduceMod, Nat.zero_add, Nat.mul_zero, not_true_eq_false, not_false_eq_true, up_T, up_F, wr_T, wr_F, ngE, ngE', ngL, ngL', ngQ, ngQ', hh], hC, F, fr_rf _ _⟩
        · have hn := g.1.1
          have hh := s_M_isPath (d + 197) j A I hR g hj
          by_cases e : j < A 0 0 0
          · simp only [if_pos e] at hh ⊢
            obtain ⟨I1, b1, b2, b3, b4⟩ := s_M_findBoots (d + 194) 99 A I hR g (hzM h8)
            have := b4 j (by omega)
            refine ⟨I1, ?_, RepR_o hR (by rw [b2 47 (by decide)]), dM_fb b2, k12_ex b3 (by decide)⟩
            simp (disch := omega) only [n_M_told, e_M_told_0, e_M_told_1, e_M_told_2, e_M_told_3, e_M_told_4, e_M_told_5, e_M_told_8, e_M_told_11, e_M_told_14, e_M_told_15, e_M_told_16, s_M_in, lit, nad, nml, bd_s, ct_s, ct_n, a11, a01, aB2, bitA, nlt, nle, neq, dlT, dlF, deT, deF, dqT, dqF, nN, inb, nsb, ndv, nrm, if_true, if_false, ite_true, ite_false, true_and, and_true, and_self, and_false, false_and, or_true, true_or, or_false, false_or, or_self, ↓reduceIte, eq_self, Nat.reduceAdd, Nat.reduceMul, Nat.reduceSub, Nat.reduceDiv, Nat.reduceMod, Nat.zero_add, Nat.mul_zero, not_true_eq_false, not_false_eq_true, up_T, up_F, wr_T, wr_F, ngE, ngE', ngL, ngL', ngQ, ngQ', hh, b1, this]
          · simp only [if_neg e] at hh ⊢
            exact ⟨I, by simp (disch := omega) only [n_M_told, e_M_told_0, e_M_told_1, e_M_told_2, e_M_told_3, e_M_told_4, e_M_told_5, e_M_told_6, e_M_told_7, s_M_in, lit, nad, nml, bd_s, ct_s, ct_n, a11, a01, aB2, bitA, nlt, nle, neq, dlT, dlF, deT, deF, dqT, dqF, nN, inb, nsb, ndv, nrm, if_true, if_false, ite_true, ite_false, true_and, and_true, and_self, and_false, false_and, or_true, true_or, or_false, false_or, or_self, ↓reduceIte, eq_self, Nat.reduceAdd, Nat.reduceMul, Nat.reduceSub, Nat.reduceDiv, Nat.reduceMod, Nat.zero_add, Nat.mul_zero, not_true_eq_false, not_false_eq_true, up_T, up_F, wr_T, wr_F, ngE, ngE', ngL, ngL', ngQ, ngQ', hh], hR, fr_rf _ _, k12_rf _⟩
      · refine call_hill (fun A => if j < A 0 0 0 then nI (wrF (A 1 j) (bo A 99 j) (rnA A (A 0 0 11)) + brN (A 1 j 5)) else -nI 1000000001) (fun A => A) (fun A I hC F g hy => ?_) (fun A I hR g hy h8 => ?_) (fun A g h => ⟨g, h, rfl⟩)
        · have hn := g.1.1
          have hh := s_H_isStretch (d + 197) j A I hC g hj
          by_cases e : j < A 0 0 0
          · simp only [if_pos e] at hh ⊢
            obtain ⟨I1, b1, b2, -⟩ := s_H_bootsNow (d + 194) j A I hC F g (by omega)
            have hC1 : RepC 0 A I1 := RepC_o hC g b2 (by decide)
            have hyr : I1 3 0 4 = nI (A 0 0 11) := hC1.1.2.2.2.2
            have ri := s_Hills_rainIn (d + 198) 0 (A 0 0 11) A I1 hC1 (by omega)
            have wb := s_Stretch_wearAndBare (d + 197) j (bo A 99 j) (rnA A (A 0 0 11)) (A 1 j) I1 (c0_st hC1 e) (stG g e) (bo_b g j) (rnA_b g _)
            refine ⟨I1, ?_, hC1, Fix_o F (fun r j _ => by rw [b2 7 (by decide)]), dC_wk b2⟩
            simp (disch := omega) only [n_H_told, e_H_told_0, e_H_told_1, e_H_told_3, e_H_told_20, e_H_told_21, e_H_told_22, e_H_told_23, lit, nad, nml, bd_s, ct_s, ct_n, a11, a01, aB2, bitA, nlt, nle, neq, dlT, dlF, deT, deF, dqT, dqF, nN, inb, nsb, ndv, nrm, if_true, if_false, ite_true, ite_false, true_and, and_true, and_self, and_false, false_and, or_true, true_or, or_false, false_or, or_self, ↓reduceIte, eq_self, Nat.reduceAdd, Nat.reduceMul, Nat.reduceSub, Nat.reduceDiv, Nat.reduceMod, Nat.zero_add, Nat.mul_zero, not_true_eq_false, not_false_eq_true, up_T, up_F, wr_T, wr_F, ngE, ngE', ngL, ngL', ngQ, ngQ', hh, b1, hyr, ri, wb]
          · simp only [if_neg e] at hh ⊢
            exact ⟨I, by simp (disch := omega) only [n_H_told, e_H_told_0, e_H_told_1, e_H_told_2, lit, nad, nml, bd_s, ct_s, ct_n, a11, a01, aB2, bitA, nlt, nle, neq, dlT, dlF, deT, deF, dqT, dqF, nN, inb, nsb, ndv, nrm, if_true, if_false, ite_true, ite_false, true_and, and_true, and_self, and_false, false_and, or_true, true_or, or_false, false_or, or_self, ↓reduceIte, eq_self, Nat.reduceAdd, Nat.reduceMul, Nat.reduceSub, Nat.reduceDiv, Nat.reduceMod, Nat.zero_add, Nat.mul_zero, not_true_eq_false, not_false_eq_true, up_T, up_F, wr_T, wr_F, ngE, ngE', ngL, ngL', ngQ, ngQ', hh], hC, F, fr_rf _ _⟩
        · have hn := g.1.1
          have hh := s_M_isPath (d + 197) j A I hR g hj
          by_cases e : j < A 0 0 0
          · simp only [if_pos e] at hh ⊢
            obtain ⟨I1, b1, b2, b3, b4⟩ := s_M_findBoots (d + 194) 99 A I hR g (hzM h8)
            have hR1 : RepR 0 A I1 := RepR_o hR (by rw [b2 47 (by decide)])
            have hb := b4 j (by omega)
            have o := fun c (hc : c < 9) => s_M_of9 (d + 198) j c A I1 hR1 g e hc
            have hyr : I1 47 0 11 = nI (A 0 0 11) := hR1.1 11 (by decide)
            have ri := s_M_rainIn (d + 198) (A 0 0 11) A I1 hR1 (by omega)
            obtain ⟨g0, g1, g2, g3, g4, g5, g6, g7, g8, g9, g10, g11⟩ := stG g e
            have wb := s_M_wearBy (d + 197) (A 1 j 8) (A 1 j 3) (A 1 j 4) (bo A 99 j) (rnA A (A 0 0 11)) I1 g11 g5 g6 (bo_b g j) (rnA_b g _)
            refine ⟨I1, ?_, hR1, dM_fb b2, k12_ex b3 (by decide)⟩
            unfold brN wrF
            by_cases e6 : 60 < A 1 j 5
            · simp (disch := omega) only [n_M_told, e_M_told_0, e_M_told_1, e_M_told_2, e_M_told_3, e_M_told_4, e_M_told_5, e_M_told_8, e_M_told_11, e_M_told_14, e_M_told_15, e_M_told_17, e_M_told_18, e_M_told_19, e_M_told_20, e_M_told_21, e_M_told_22, e_M_told_23, e_M_told_24, e_M_told_25, e_M_told_26, s_M_in, lit, nad, nml, bd_s, ct_s, ct_n, a11, a01, aB2, bitA, nlt, nle, neq, dlT, dlF, deT, deF, dqT, dqF, nN, inb, nsb, ndv, nrm, if_true, if_false, ite_true, ite_false, true_and, and_true, and_self, and_false, false_and, or_true, true_or, or_false, false_or, or_self, ↓reduceIte, eq_self, Nat.reduceAdd, Nat.reduceMul, Nat.reduceSub, Nat.reduceDiv, Nat.reduceMod, Nat.zero_add, Nat.mul_zero, not_true_eq_false, not_false_eq_true, up_T, up_F, wr_T, wr_F, ngE, ngE', ngL, ngL', ngQ, ngQ', hh, b1, o 5 (by decide), o 8 (by decide), o 3 (by decide), o 4 (by decide), hb, hyr, ri, wb]
            · simp (disch := omega) only [n_M_told, e_M_told_0, e_M_told_1, e_M_told_2, e_M_told_3, e_M_told_4, e_M_told_5, e_M_told_8, e_M_told_11, e_M_told_14, e_M_told_15, e_M_told_17, e_M_told_18, e_M_told_19, e_M_told_20, e_M_told_21, e_M_told_22, e_M_told_23, e_M_told_24, e_M_told_25, e_M_told_26, s_M_in, lit, nad, nml, bd_s, ct_s, ct_n, a11, a01, aB2, bitA, nlt, nle, neq, dlT, dlF, deT, deF, dqT, dqF, nN, inb, nsb, ndv, nrm, if_true, if_false, ite_true, ite_false, true_and, and_true, and_self, and_false, false_and, or_true, true_or, or_false, false_or, or_self, ↓reduceIte, eq_self, Nat.reduceAdd, Nat.reduceMul, Nat.reduceSub, Nat.reduceDiv, Nat.reduceMod, Nat.zero_add, Nat.mul_zero, not_true_eq_false, not_false_eq_true, up_T, up_F, wr_T, wr_F, ngE, ngE', ngL, ngL', ngQ, ngQ', hh, b1, o 5 (by decide), o 8 (by decide), o 3 (by decide), o 4 (by decide), hb, hyr, ri, wb]
          · simp only [if_neg e] at hh ⊢
            exact ⟨I, by simp (disch := omega) only [n_M_told, e_M_told_0, e_M_told_1, e_M_told_2, e_M_told_3, e_M_told_4, e_M_told_5, e_M_told_6, e_M_told_7, s_M_in, lit, nad, nml, bd_s, ct_s, ct_n, a11, a01, aB2, bitA, nlt, nle, neq, dlT, dlF, deT, deF, dqT, dqF, nN, inb, nsb, ndv, nrm, if_true, if_false, ite_true, ite_false, true_and, and_true, and_self, and_false, false_and, or_true, true_or, or_false, false_or, or_self, ↓reduceIte, eq_self, Nat.reduceAdd, Nat.reduceMul, Nat.reduceSub, Nat.reduceDiv, Nat.reduceMod, Nat.zero_add, Nat.mul_zero, not_true_eq_false, not_false_eq_true, up_T, up_F, wr_T, wr_F, ngE, ngE', ngL, ngL', ngQ, ngQ', hh], hR, fr_rf _ _, k12_rf _⟩
      · refine call_id (fun A => if j < A 0 0 0 then hdF (A 1 j) else -nI 1000000001) (fun A I hC F g _ => ?_) (fun A I hR g _ _ => ?_)
        · have hn := g.1.1
          have hh := s_H_isStretch (d + 197) j A I hC g hj
          by_cases e : j < A 0 0 0
          · simp only [if_pos e] at hh ⊢
            have he := s_Stretch_holds (d + 197) j (A 1 j) I (c0_st hC e) (stG g e)
            simp (disch := omega) only [n_H_told, e_H_told_0, e_H_told_1, e_H_told_3, e_H_told_24, e_H_told_25, lit, nad, nml, bd_s, ct_s, ct_n, a11, a01, aB2, bitA, nlt, nle, neq, dlT, dlF, deT, deF, dqT, dqF, nN, inb, nsb, ndv, nrm, if_true, if_false, ite_true, ite_false, true_and, and_true, and_self, and_false, false_and, or_true, true_or, or_false, false_or, or_self, ↓reduceIte, eq_self, Nat.reduceAdd, Nat.reduceMul, Nat.reduceSub, Nat.reduceDiv, Nat.reduceMod, Nat.zero_add, Nat.mul_zero, not_true_eq_false, not_false_eq_true, up_T, up_F, wr_T, wr_F, ngE, ngE', ngL, ngL', ngQ, ngQ', hh, he]
          · simp only [if_neg e] at hh ⊢
            simp (disch := omega) only [n_H_told, e_H_told_0, e_H_told_1, e_H_told_2, lit, nad, nml, bd_s, ct_s, ct_n, a11, a01, aB2, bitA, nlt, nle, neq, dlT, dlF, deT, deF, dqT, dqF, nN, inb, nsb, ndv, nrm, if_true, if_false, ite_true, ite_false, true_and, and_true, and_self, and_false, false_and, or_true, true_or, or_false, false_or, or_self, ↓reduceIte, eq_self, Nat.reduceAdd, Nat.reduceMul, Nat.reduceSub, Nat.reduceDiv, Nat.reduceMod, Nat.zero_add, Nat.mul_zero, not_true_eq_false, not_false_eq_true, up_T, up_F, wr_T, wr_F, ngE, ngE', ngL, ngL', ngQ, ngQ', hh]
        · have hn := g.1.1
          have hh := s_M_isPath (d + 197) j A I hR g hj
          by_cases e : j < A 0 0 0
          · simp only [if_pos e] at hh ⊢
            have he := s_M_holdsOf (d + 195) j A I hR g e
            simp (disch := omega) only [n_M_told, e_M_told_0, e_M_told_1, e_M_told_2, e_M_told_3, e_M_told_4, e_M_told_5, e_M_told_8, e_M_told_11, e_M_told_12, e_M_told_13, s_M_in, lit, nad, nml, bd_s, ct_s, ct_n, a11, a01, aB2, bitA, nlt, nle, neq, dlT, dlF, deT, deF, dqT, dqF, nN, inb, nsb, ndv, nrm, if_true, if_false, ite_true, ite_false, true_and, and_true, and_self, and_false, false_and, or_true, true_or, or_false, false_or, or_self, ↓reduceIte, eq_self, Nat.reduceAdd, Nat.reduceMul, Nat.reduceSub, Nat.reduceDiv, Nat.reduceMod, Nat.zero_add, Nat.mul_zero, not_true_eq_false, not_false_eq_true, up_T, up_F, wr_T, wr_F, ngE, ngE', ngL, ngL', ngQ, ngQ', hh, he]
          · simp only [if_neg e] at hh ⊢
            simp (disch := omega) only [n_M_told, e_M_told_0, e_M_told_1, e_M_told_2, e_M_told_3, e_M_told_4, e_M_told_5, e_M_told_6, e_M_told_7, s_M_in, lit, nad, nml, bd_s, ct_s, ct_n, a11, a01, aB2, bitA, nlt, nle, neq, dlT, dlF, deT, deF, dqT, dqF, nN, inb, nsb, ndv, nrm, if_true, if_false, ite_true, ite_false, true_and, and_true, and_self, and_false, false_and, or_true, true_or, or_false, false_or, or_self, ↓reduceIte, eq_self, Nat.reduceAdd, Nat.reduceMul, Nat.reduceSub, Nat.reduceDiv, Nat.reduceMod, Nat.zero_add, Nat.mul_zero, not_true_eq_false, not_false_eq_true, up_T, up_F, wr_T, wr_F, ngE, ngE', ngL, ngL', ngQ, ngQ', hh]
  · refine call_id (fun _ => -nI 1000000001) (fun A I hC _ g _ => ?_) (fun A I hR g _ _ => ?_)
    · have hn := g.1.1
      have hh := s_H_isStretch (d + 197) j A I hC g hj
      by_cases e : j < A 0 0 0 <;> simp only [e, if_true, if_false] at hh
      · simp (disch := omega) only [n_H_told, e_H_told_0, e_H_told_1, e_H_told_2, e_H_told_3, e_H_told_26, lit, nad, nml, bd_s, ct_s, ct_n, a11, a01, aB2, bitA, nlt, nle, neq, dlT, dlF, deT, deF, dqT, dqF, nN, inb, nsb, ndv, nrm, if_true, if_false, ite_true, ite_false, true_and, and_true, and_self, and_false, false_and, or_true, true_or, or_false, false_or, or_self, ↓reduceIte, eq_self, Nat.reduceAdd, Nat.reduceMul, Nat.reduceSub, Nat.reduceDiv, Nat.reduceMod, Nat.zero_add, Nat.mul_zero, not_true_eq_false, not_false_eq_true, up_T, up_F, wr_T, wr_F, ngE, ngE', ngL, ngL', ngQ, ngQ', hh, ngK h]
      · simp (disch := omega) only [n_H_told, e_H_told_0, e_H_told_1, e_H_told_2, e_H_told_3, e_H_told_26, lit, nad, nml, bd_s, ct_s, ct_n, a11, a01, aB2, bitA, nlt, nle, neq, dlT, dlF, deT, deF, dqT, dqF, nN, inb, nsb, ndv, nrm, if_true, if_false, ite_true, ite_false, true_and, and_true, and_self, and_false, false_and, or_true, true_or, or_false, false_or, or_self, ↓reduceIte, eq_self, Nat.reduceAdd, Nat.reduceMul, Nat.reduceSub, Nat.reduceDiv, Nat.reduceMod, Nat.zero_add, Nat.mul_zero, not_true_eq_false, not_false_eq_true, up_T, up_F, wr_T, wr_F, ngE, ngE', ngL, ngL', ngQ, ngQ', hh]
    · have hn := g.1.1
      have hh := s_M_isPath (d + 197) j A I hR g hj
      by_cases e : j < A 0 0 0 <;> simp only [e, if_true, if_false] at hh <;> simp (disch := omega) only [n_M_told, e_M_told_0, e_M_told_1, e_M_told_2, e_M_told_3, e_M_told_4, e_M_told_5, e_M_told_6, e_M_told_7, s_M_in, lit, nad, nml, bd_s, ct_s, ct_n, a11, a01, aB2, bitA, nlt, nle, neq, dlT, dlF, deT, deF, dqT, dqF, nN, inb, nsb, ndv, nrm, if_true, if_false, ite_true, ite_false, true_and, and_true, and_self, and_false, false_and, or_true, true_or, or_false, false_or, or_self, ↓reduceIte, eq_self, Nat.reduceAdd, Nat.reduceMul, Nat.reduceSub, Nat.reduceDiv, Nat.reduceMod, Nat.zero_add, Nat.mul_zero, not_true_eq_false, not_false_eq_true, up_T, up_F, wr_T, wr_F, ngE, ngE', ngL, ngL', ngQ, ngQ', hh, h]
