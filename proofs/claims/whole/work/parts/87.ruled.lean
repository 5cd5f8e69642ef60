/-! Calls: rule, closing, washed, mend. -/
theorem dC_39 {ks : List Nat} {I I' : mm_I} (h : eqo ks I I') (hk : ∀ k ∈ ks, 39 ≤ k ∧ k ≤ 45) : fr dC I I' := fr_eqo h (by intro k z i; have := hk k z; unfold dC; omega)
theorem dM_56 {ks : List Nat} {I I' : mm_I} (h : eqo ks I I') (hk : ∀ k ∈ ks, 54 ≤ k ∧ k ≤ 63) : fr dM' I I' := fr_eqo h (by intro k z i; have := hk k z; unfold dM'; omega)
theorem Fix_e {ks : List Nat} {I I' : mm_I} (F : Fix I) (h : eqo ks I I') (hk : 7 ∉ ks) : Fix I' := Fix_o F (fun r j _ => by rw [h 7 hk])
theorem k12_e {ks : List Nat} {I I' : mm_I} (h : eqo ks I I') (hk : 12 ∉ ks) : k12 I I' := k12_of (h 12 hk)
theorem Ok_rule (d : Nat) (t k v : Int32) : Ok (d + 200) q_H_rule q_M_rule [.inl t, .inl k, .inl v] := by
  rcases ix t with ht | ⟨j, hj, ht⟩
  · refine call_id (fun _ => -nI 1000000001) (fun A I _ _ _ _ => ?_) (fun A I hR _ _ _ => ?_)
    · simp (disch := omega) only [n_H_rule, e_H_rule_0, e_H_rule_1, e_H_rule_2, e_H_rule_3, e_H_rule_4, s_H_isStretchN _ _ _ ht, lit, nad, nml, bd_s, ct_s, ct_n, a11, a01, aB2, bitA, nlt, nle, neq, dlT, dlF, deT, deF, dqT, dqF, nN, inb, nsb, ndv, nrm, if_true, if_false, ite_true, ite_false, true_and, and_true, and_self, and_false, false_and, or_true, true_or, or_false, false_or, or_self, ↓reduceIte, eq_self, Nat.reduceAdd, Nat.reduceMul, Nat.reduceSub, Nat.reduceDiv, Nat.reduceMod, Nat.zero_add, Nat.mul_zero, not_true_eq_false, not_false_eq_true, up_T, up_F, wr_T, wr_F, ngE, ngE', ngL, ngL', ngQ, ngQ']
    · simp (disch := omega) only [n_M_rule, e_M_rule_0, e_M_rule_1, e_M_rule_2, e_M_rule_3, e_M_rule_4, e_M_rule_5, e_M_rule_6, e_M_rule_7, e_M_rule_8, e_M_rule_9, e_M_rule_10, s_M_isPathN _ _ _ ht, lit, nad, nml, bd_s, ct_s, ct_n, a11, a01, aB2, bitA, nlt, nle, neq, dlT, dlF, deT, deF, dqT, dqF, nN, inb, nsb, ndv, nrm, if_true, if_false, ite_true, ite_false, true_and, and_true, and_self, and_false, false_and, or_true, true_or, or_false, false_or, or_self, ↓reduceIte, eq_self, Nat.reduceAdd, Nat.reduceMul, Nat.reduceSub, Nat.reduceDiv, Nat.reduceMod, Nat.zero_add, Nat.mul_zero, not_true_eq_false, not_false_eq_true, up_T, up_F, wr_T, wr_F, ngE, ngE', ngL, ngL', ngQ, ngQ']
  subst ht
  by_cases h1 : nI 0 ≤ k ∧ k ≤ nI 3
  rotate_left
  · refine call_id (fun _ => -nI 1000000001) (fun A I hC _ g _ => ?_) (fun A I hR g _ _ => ?_)
    · have hh := s_H_isStretch (d + 197) j A I hC g hj
      by_cases e : j < A 0 0 0 <;> simp only [e, if_true, if_false] at hh <;> simp (disch := omega) only [n_H_rule, e_H_rule_0, e_H_rule_1, e_H_rule_2, e_H_rule_3, e_H_rule_4, s_H_within, lit, nad, nml, bd_s, ct_s, ct_n, a11, a01, aB2, bitA, nlt, nle, neq, dlT, dlF, deT, deF, dqT, dqF, nN, inb, nsb, ndv, nrm, if_true, if_false, ite_true, ite_false, true_and, and_true, and_self, and_false, false_and, or_true, true_or, or_false, false_or, or_self, ↓reduceIte, eq_self, Nat.reduceAdd, Nat.reduceMul, Nat.reduceSub, Nat.reduceDiv, Nat.reduceMod, Nat.zero_add, Nat.mul_zero, not_true_eq_false, not_false_eq_true, up_T, up_F, wr_T, wr_F, ngE, ngE', ngL, ngL', ngQ, ngQ', hh, h1]
    · have hh := s_M_isPath (d + 197) j A I hR g hj
      by_cases e : j < A 0 0 0 <;> simp only [e, if_true, if_false] at hh <;> simp (disch := omega) only [n_M_rule, e_M_rule_0, e_M_rule_1, e_M_rule_2, e_M_rule_3, e_M_rule_4, e_M_rule_5, e_M_rule_6, e_M_rule_7, e_M_rule_8, e_M_rule_9, e_M_rule_10, s_M_in, lit, nad, nml, bd_s, ct_s, ct_n, a11, a01, aB2, bitA, nlt, nle, neq, dlT, dlF, deT, deF, dqT, dqF, nN, inb, nsb, ndv, nrm, if_true, if_false, ite_true, ite_false, true_and, and_true, and_self, and_false, false_and, or_true, true_or, or_false, false_or, or_self, ↓reduceIte, eq_self, Nat.reduceAdd, Nat.reduceMul, Nat.reduceSub, Nat.reduceDiv, Nat.reduceMod, Nat.zero_add, Nat.mul_zero, not_true_eq_false, not_false_eq_true, up_T, up_F, wr_T, wr_F, ngE, ngE', ngL, ngL', ngQ, ngQ', hh, h1]
  obtain ⟨key, -, k1, k2⟩ := wof h1 (by decide) (by decide)
  subst k2
  by_cases h2 : (key = 0 ∨ key = 2) ∧ ¬ (nI 0 ≤ v ∧ v ≤ nI 4)
  · obtain ⟨h2, h3⟩ := h2
    refine call_id (fun _ => -nI 1000000001) (fun A I hC _ g _ => ?_) (fun A I hR g _ _ => ?_)
    · have hh := s_H_isStretch (d + 197) j A I hC g hj
      by_cases e : j < A 0 0 0 <;> simp only [e, if_true, if_false] at hh <;> rcases h2 with w | w <;> subst w <;> simp (disch := omega) only [n_H_rule, e_H_rule_0, e_H_rule_1, e_H_rule_2, e_H_rule_3, e_H_rule_4, e_H_rule_5, e_H_rule_6, e_H_rule_7, e_H_rule_8, e_H_rule_9, s_H_within, lit, nad, nml, bd_s, ct_s, ct_n, a11, a01, aB2, bitA, nlt, nle, neq, dlT, dlF, deT, deF, dqT, dqF, nN, inb, nsb, ndv, nrm, if_true, if_false, ite_true, ite_false, true_and, and_true, and_self, and_false, false_and, or_true, true_or, or_false, false_or, or_self, ↓reduceIte, eq_self, Nat.reduceAdd, Nat.reduceMul, Nat.reduceSub, Nat.reduceDiv, Nat.reduceMod, Nat.zero_add, Nat.mul_zero, not_true_eq_false, not_false_eq_true, up_T, up_F, wr_T, wr_F, ngE, ngE', ngL, ngL', ngQ, ngQ', hh, h3]
    · have hh := s_M_isPath (d + 197) j A I hR g hj
      by_cases e : j < A 0 0 0 <;> simp only [e, if_true, if_false] at hh <;> rcases h2 with w | w <;> subst w <;> simp (disch := omega) only [n_M_rule, e_M_rule_0, e_M_rule_1, e_M_rule_2, e_M_rule_3, e_M_rule_4, e_M_rule_5, e_M_rule_6, e_M_rule_7, e_M_rule_8, e_M_rule_9, e_M_rule_10, s_M_in, lit, nad, nml, bd_s, ct_s, ct_n, a11, a01, aB2, bitA, nlt, nle, neq, dlT, dlF, deT, deF, dqT, dqF, nN, inb, nsb, ndv, nrm, if_true, if_false, ite_true, ite_false, true_and, and_true, and_self, and_false, false_and, or_true, true_or, or_false, false_or, or_self, ↓reduceIte, eq_self, Nat.reduceAdd, Nat.reduceMul, Nat.reduceSub, Nat.reduceDiv, Nat.reduceMod, Nat.zero_add, Nat.mul_zero, not_true_eq_false, not_false_eq_true, up_T, up_F, wr_T, wr_F, ngE, ngE', ngL, ngL', ngQ, ngQ', hh, h3]
  have h3 : key = 0 ∨ key = 2 → (nI 0 ≤ v ∧ v ≤ nI 4) := fun q => Classical.byContradiction (fun z => h2 ⟨q, z⟩)
  refine call_hill (fun A => if j < A 0 0 0 then ruA A j key v (bo A 99 j) else -nI 1000000001) (fun A => A) (fun A I hC F g _ => ?_) (fun A I hR g _ h8 => ?_) (fun A g h => ⟨g, h, rfl⟩)
  · have hn := g.1.1
    have hh := s_H_isStretch (d + 197) j A I hC g hj
    by_cases e : j < A 0 0 0
    · simp only [if_pos e] at hh ⊢
      by_cases w : key = 1
      · subst w
        obtain ⟨I1, t1, t2, t3⟩ := s_Walk_tread (d + 195) 0 99 (-nI 1000000005) A I hC F (by decide) g hzN
        have hC1 := RepC_o hC g t2 (by decide)
        obtain ⟨I2, r1, r2⟩ := s_H_ruled (d + 195) j 1 (bo A 99 j) v A I1 hC1 g e (by decide) (fun _ => t3 j (by omega))
        refine ⟨I2, ?_, RepC_39 hC1 g r2 (by decide), Fix_e (Fix_e F t2 (by decide)) r2 (by decide), fr_tr (dC_wk t2) (dC_39 r2 (by decide))⟩
        simp (disch := omega) only [n_H_rule, e_H_rule_0, e_H_rule_1, e_H_rule_2, e_H_rule_3, e_H_rule_5, e_H_rule_6, e_H_rule_10, e_H_rule_11, e_H_rule_12, e_H_rule_13, s_H_within, lit, nad, nml, bd_s, ct_s, ct_n, a11, a01, aB2, bitA, nlt, nle, neq, dlT, dlF, deT, deF, dqT, dqF, nN, inb, nsb, ndv, nrm, if_true, if_false, ite_true, ite_false, true_and, and_true, and_self, and_false, false_and, or_true, true_or, or_false, false_or, or_self, ↓reduceIte, eq_self, Nat.reduceAdd, Nat.reduceMul, Nat.reduceSub, Nat.reduceDiv, Nat.reduceMod, Nat.zero_add, Nat.mul_zero, not_true_eq_false, not_false_eq_true, up_T, up_F, wr_T, wr_F, ngE, ngE', ngL, ngL', ngQ, ngQ', hh, t1, r1]
      · obtain ⟨I2, r1, r2⟩ := s_H_ruled (d + 195) j key (bo A 99 j) v A I hC g e k1 (fun q => absurd q w)
        refine ⟨I2, ?_, RepC_39 hC g r2 (by decide), Fix_e F r2 (by decide), dC_39 r2 (by decide)⟩
        rcases (show key = 0 ∨ key = 2 ∨ key = 3 by omega) with q | q | q <;> subst q
        · have := h3 (Or.inl rfl)
          simp (disch := omega) only [n_H_rule, e_H_rule_0, e_H_rule_1, e_H_rule_2, e_H_rule_3, e_H_rule_5, e_H_rule_7, e_H_rule_8, e_H_rule_10, e_H_rule_12, e_H_rule_13, s_H_within, lit, nad, nml, bd_s, ct_s, ct_n, a11, a01, aB2, bitA, nlt, nle, neq, dlT, dlF, deT, deF, dqT, dqF, nN, inb, nsb, ndv, nrm, if_true, if_false, ite_true, ite_false, true_and, and_true, and_self, and_false, false_and, or_true, true_or, or_false, false_or, or_self, ↓reduceIte, eq_self, Nat.reduceAdd, Nat.reduceMul, Nat.reduceSub, Nat.reduceDiv, Nat.reduceMod, Nat.zero_add, Nat.mul_zero, not_true_eq_false, not_false_eq_true, up_T, up_F, wr_T, wr_F, ngE, ngE', ngL, ngL', ngQ, ngQ', hh, r1, this]
        · have := h3 (Or.inr rfl)
          simp (disch := omega) only [n_H_rule, e_H_rule_0, e_H_rule_1, e_H_rule_2, e_H_rule_3, e_H_rule_5, e_H_rule_6, e_H_rule_7, e_H_rule_8, e_H_rule_10, e_H_rule_12, e_H_rule_13, s_H_within, lit, nad, nml, bd_s, ct_s, ct_n, a11, a01, aB2, bitA, nlt, nle, neq, dlT, dlF, deT, deF, dqT, dqF, nN, inb, nsb, ndv, nrm, if_true, if_false, ite_true, ite_false, true_and, and_true, and_self, and_false, false_and, or_true, true_or, or_false, false_or, or_self, ↓reduceIte, eq_self, Nat.reduceAdd, Nat.reduceMul, Nat.reduceSub, Nat.reduceDiv, Nat.reduceMod, Nat.zero_add, Nat.mul_zero, not_true_eq_false, not_false_eq_true, up_T, up_F, wr_T, wr_F, ngE, ngE', ngL, ngL', ngQ, ngQ', hh, r1, this]
        · simp (disch := omega) only [n_H_rule, e_H_rule_0, e_H_rule_1, e_H_rule_2, e_H_rule_3, e_H_rule_5, e_H_rule_6, e_H_rule_10, e_H_rule_12, e_H_rule_13, s_H_within, lit, nad, nml, bd_s, ct_s, ct_n, a11, a01, aB2, bitA, nlt, nle, neq, dlT, dlF, deT, deF, dqT, dqF, nN, inb, nsb, ndv, nrm, if_true, if_false, ite_true, ite_false, true_and, and_true, and_self, and_false, false_and, or_true, true_or, or_false, false_or, or_self, ↓reduceIte, eq_self, Nat.reduceAdd, Nat.reduceMul, Nat.reduceSub, Nat.reduceDiv, Nat.reduceMod, Nat.zero_add, Nat.mul_zero, not_true_eq_false, not_false_eq_true, up_T, up_F, wr_T, wr_F, ngE, ngE', ngL, ngL', ngQ, ngQ', hh, r1]
    · simp only [if_neg e] at hh ⊢
      exact ⟨I, by simp (disch := omega) only [n_H_rule, e_H_rule_0, e_H_rule_1, e_H_rule_2, e_H_rule_3, e_H_rule_4, s_H_within, lit, nad, nml, bd_s, ct_s, ct_n, a11, a01, aB2, bitA, nlt, nle, neq, dlT, dlF, deT, deF, dqT, dqF, nN, inb, nsb, ndv, nrm, if_true, if_false, ite_true, ite_false, true_and, and_true, and_self, and_false, false_and, or_true, true_or, or_false, false_or, or_self, ↓reduceIte, eq_self, Nat.reduceAdd, Nat.reduceMul, Nat.reduceSub, Nat.reduceDiv, Nat.reduceMod, Nat.zero_add, Nat.mul_zero, not_true_eq_false, not_false_eq_true, up_T, up_F, wr_T, wr_F, ngE, ngE', ngL, ngL', ngQ, ngQ', hh], hC, F, fr_rf _ _⟩
  · have hn := g.1.1
    have hh := s_M_isPath (d + 197) j A I hR g hj
    by_cases e : j < A 0 0 0
    · simp only [if_pos e] at hh ⊢
      obtain ⟨I1, t1, t2, t2', t3⟩ := s_M_findBoots (d + 194) 99 A I hR g (hzM h8)
      have hR1 : RepR 0 A I1 := RepR_o hR (by rw [t2 47 (by decide)])
      obtain ⟨I2, r1, r2⟩ := s_M_ruled (d + 193) j key (bo A 99 j) v A I1 hR1 g e k1 (fun _ => t3 j (by omega))
      refine ⟨I2, ?_, RepR_o hR1 (by rw [r2 47 (by decide)]), fr_tr (dM_fb t2) (dM_56 r2 (by decide)), k12_tr (k12_ex t2' (by decide)) (k12_e r2 (by decide))⟩
      rcases (show key = 0 ∨ key = 1 ∨ key = 2 ∨ key = 3 by omega) with q | q | q | q <;> subst q
      · have := h3 (Or.inl rfl)
        simp (disch := omega) only [n_M_rule, e_M_rule_0, e_M_rule_1, e_M_rule_2, e_M_rule_3, e_M_rule_4, e_M_rule_5, e_M_rule_6, e_M_rule_7, e_M_rule_8, e_M_rule_9, e_M_rule_10, s_M_in, lit, nad, nml, bd_s, ct_s, ct_n, a11, a01, aB2, bitA, nlt, nle, neq, dlT, dlF, deT, deF, dqT, dqF, nN, inb, nsb, ndv, nrm, if_true, if_false, ite_true, ite_false, true_and, and_true, and_self, and_false, false_and, or_true, true_or, or_false, false_or, or_self, ↓reduceIte, eq_self, Nat.reduceAdd, Nat.reduceMul, Nat.reduceSub, Nat.reduceDiv, Nat.reduceMod, Nat.zero_add, Nat.mul_zero, not_true_eq_false, not_false_eq_true, up_T, up_F, wr_T, wr_F, ngE, ngE', ngL, ngL', ngQ, ngQ', hh, t1, r1, this]
      · simp (disch := omega) only [n_M_rule, e_M_rule_0, e_M_rule_1, e_M_rule_2, e_M_rule_3, e_M_rule_4, e_M_rule_5, e_M_rule_6, e_M_rule_7, e_M_rule_8, e_M_rule_9, e_M_rule_10, s_M_in, lit, nad, nml, bd_s, ct_s, ct_n, a11, a01, aB2, bitA, nlt, nle, neq, dlT, dlF, deT, deF, dqT, dqF, nN, inb, nsb, ndv, nrm, if_true, if_false, ite_true, ite_false, true_and, and_true, and_self, and_false, false_and, or_true, true_or, or_false, false_or, or_self, ↓reduceIte, eq_self, Nat.reduceAdd, Nat.reduceMul, Nat.reduceSub, Nat.reduceDiv, Nat.reduceMod, Nat.zero_add, Nat.mul_zero, not_true_eq_false, not_false_eq_true, up_T, up_F, wr_T, wr_F, ngE, ngE', ngL, ngL', ngQ, ngQ', hh, t1, r1]
      · have := h3 (Or.inr rfl)
        simp (disch := omega) only [n_M_rule, e_M_rule_0, e_M_rule_1, e_M_rule_2, e_M_rule_3, e_M_rule_4, e_M_rule_5, e_M_rule_6, e_M_rule_7, e_M_rule_8, e_M_rule_9, e_M_rule_10, s_M_in, lit, nad, nml, bd_s, ct_s, ct_n, a11, a01, aB2, bitA, nlt, nle, neq, dlT, dlF, deT, deF, dqT, dqF, nN, inb, nsb, ndv, nrm, if_true, if_false, ite_true, ite_false, true_and, and_true, and_self, and_false, false_and, or_true, true_or, or_false, false_or, or_self, ↓reduceIte, eq_self, Nat.reduceAdd, Nat.reduceMul, Nat.reduceSub, Nat.reduceDiv, Nat.reduceMod, Nat.zero_add, Nat.mul_zero, not_true_eq_false, not_false_eq_true, up_T, up_F, wr_T, wr_F, ngE, ngE', ngL, ngL', ngQ, ngQ', hh, t1, r1, this]
      · simp (disch := omega) only [n_M_rule, e_M_rule_0, e_M_rule_1, e_M_rule_2, e_M_rule_3, e_M_rule_4, e_M_rule_5, e_M_rule_6, e_M_rule_7, e_M_rule_8, e_M_rule_9, e_M_rule_10, s_M_in, lit, nad, nml, bd_s, ct_s, ct_n, a11, a01, aB2, bitA, nlt, nle, neq, dlT, dlF, deT, deF, dqT, dqF, nN, inb, nsb, ndv, nrm, if_true, if_false, ite_true, ite_false, true_and, and_true, and_self, and_false, false_and, or_true, true_or, or_false, false_or, or_self, ↓reduceIte, eq_self, Nat.reduceAdd, Nat.reduceMul, Nat.reduceSub, Nat.reduceDiv, Nat.reduceMod, Nat.zero_add, Nat.mul_zero, not_true_eq_false, not_false_eq_true, up_T, up_F, wr_T, wr_F, ngE, ngE', ngL, ngL', ngQ, ngQ', hh, t1, r1]
    · simp only [if_neg e] at hh ⊢
      exact ⟨I, by simp (disch := omega) only [n_M_rule, e_M_rule_0, e_M_rule_1, e_M_rule_2, e_M_rule_3, e_M_rule_4, e_M_rule_5, e_M_rule_6, e_M_rule_7, e_M_rule_8, e_M_rule_9, e_M_rule_10, s_M_in, lit, nad, nml, bd_s, ct_s, ct_n, a11, a01, aB2, bitA, nlt, nle, neq, dlT, dlF, deT, deF, dqT, dqF, nN, inb, nsb, ndv, nrm, if_true, if_false, ite_true, ite_false, true_and, and_true, and_self, and_false, false_and, or_true, true_or, or_false, false_or, or_self, ↓reduceIte, eq_self, Nat.reduceAdd, Nat.reduceMul, Nat.reduceSub, Nat.reduceDiv, Nat.reduceMod, Nat.zero_add, Nat.mul_zero, not_true_eq_false, not_false_eq_true, up_T, up_F, wr_T, wr_F, ngE, ngE', ngL, ngL', ngQ, ngQ', hh], hR, fr_rf _ _, k12_rf _⟩
/-! closing -/
theorem tc_cong {A B : mm_A} {o k : Nat} (h3 : B 3 = A 3) (h0 : B 0 = A 0) : ∀ i, tc B o k i = tc A o k i
  | 0 => rfl
  | i + 1 => by
    have := tc_cong (o := o) (k := k) h3 h0 i
    rw [tc, tc, this]
    unfold tcB
    rw [h3, h0]
theorem ru1_cong {A B : mm_A} {p b : Nat} {kd : Int32} (h3 : B 3 = A 3) (h0 : B 0 = A 0) (h1 : B 1 p = A 1 p) : ruA B p 1 kd b = ruA A p 1 kd b := by
  unfold ruA
  rw [h1, h0, tc_cong h3 h0, h3]
  have : nmA B p 1 kd b = nmA A p 1 kd b := by
    funext i
    unfold nmA
    rw [h1, h0]
    rfl
  rw [this]
noncomputable def clB (A : mm_A) (p : Nat) : Nat := if ruA A p 1 (nI 0) (bo A 99 p) = nI 0 then 0 else 1
noncomputable def csA (A : mm_A) : Nat → mm_A
  | 0 => A
  | k + 1 => sA (csA A k) 1 k 7 (clB A k)
theorem csA_o {A : mm_A} {s : Nat} (h : s ≠ 1) : ∀ k, csA A k s = A s
  | 0 => rfl
  | k + 1 => by rw [csA, sA_o h, csA_o h k]
theorem csA_r {A : mm_A} {p : Nat} : ∀ k, k ≤ p → csA A k 1 p = A 1 p
  | 0, _ => rfl
  | k + 1, h => by rw [csA, sA_ro (by omega), csA_r k (by omega)]
theorem csA_7 {A : mm_A} {p : Nat} : ∀ k, p < k → csA A k 1 p 7 = clB A p
  | 0, h => by omega
  | k + 1, h => by
    rw [csA]
    by_cases e : p = k
    · rw [e, sA_s]
    · rw [sA_F (by omega)]; exact csA_7 k (by omega)
theorem clB_1 (A : mm_A) (p : Nat) : clB A p ≤ 1 := by unfold clB; split <;> omega
theorem csA_g {A : mm_A} (g : Good A) : ∀ k, k ≤ A 0 0 0 → Good (csA A k)
  | 0, _ => g
  | k + 1, h => by
    rw [csA]
    refine Good_st (csA_g g k (by omega)) ?_
    rw [csA_r k (Nat.le_refl _)]
    exact StG_s (stG g (by omega)) (clB_1 A k)
theorem Ok_closing (d : Nat) : Ok (d + 200) q_H_closing q_M_closing [] := by
  refine call_hill (fun A => nI (sm (clB A) (A 0 0 0))) (fun A => csA A (A 0 0 0)) (fun A I hC F g _ => ?_) (fun A I hR g _ h8 => ?_) (fun A g h => ⟨csA_g g _ (Nat.le_refl _), by rw [csA_o (by decide)]; exact h, by rw [csA_o (by decide)]⟩)
  · have hn := g.1.1
    obtain ⟨I1, t1, t2, t3⟩ := s_Walk_tread (d + 195) 0 99 (-nI 1000000005) A I hC F (by decide) g hzN
    have hC1 := RepC_o hC g t2 (by decide)
    have s0 : Sn (d + 200) q_H_closing [.inr (11, 0)] I = Rn (d + 199) q_H_closing 2 [some (.inr (11, 0)), some (.inl (nI 0))] [] I1 := by
      simp (disch := omega) only [n_H_closing, e_H_closing_0, e_H_closing_1, lit, nad, nml, bd_s, ct_s, ct_n, a11, a01, aB2, bitA, nlt, nle, neq, dlT, dlF, deT, deF, dqT, dqF, nN, inb, nsb, ndv, nrm, if_true, if_false, ite_true, ite_false, true_and, and_true, and_self, and_false, false_and, or_true, true_or, or_false, false_or, or_self, ↓reduceIte, eq_self, Nat.reduceAdd, Nat.reduceMul, Nat.reduceSub, Nat.reduceDiv, Nat.reduceMod, Nat.zero_add, Nat.mul_zero, not_true_eq_false, not_false_eq_true, up_T, up_F, wr_T, wr_F, ngE, ngE', ngL, ngL', ngQ, ngQ', t1]
    rw [s0]
    refine lpX (n := A 0 0 0) (σ := mm_I) (fun i s => Rn (d + 199) q_H_closing 2 [some (.inr (11, 0)), some (.inl (nI i))] [] s) (fun i s => RepC 0 (csA A i) s ∧ Fix s ∧ fr dC I s ∧ ∀ p, p < 16 → s 43 0 p = nI (bo A 99 p)) (fun q => ∃ I1, q = some (some (.inl (nI (sm (clB A) (A 0 0 0)))), (sh0, I1)) ∧ RepC 0 (csA A (A 0 0 0)) I1 ∧ Fix I1 ∧ fr dC I I1) ?_ ?_ 0 I1 (Nat.zero_le _) ⟨hC1, Fix_e F t2 (by decide), dC_wk t2, t3⟩
    · rintro i J hi ⟨j1, j2, j3, j4⟩
      have gi := csA_g g i (by omega)
      have hic : i < csA A i 0 0 0 := by rw [csA_o (by decide)]; exact hi
      obtain ⟨J2, r1, r2⟩ := s_H_ruled (d + 195) i 1 (bo A 99 i) (nI 0) (csA A i) J j1 gi hic (by decide) (fun _ => j4 i (by omega))
      rw [ru1_cong (csA_o (by decide) i) (csA_o (by decide) i) (csA_r i (Nat.le_refl _))] at r1
      have hc2 := RepC_39 j1 gi r2 (by decide)
      have hst : J 3 0 1 = nI (A 0 0 0) := by
        have := j1.1.1
        rw [csA_o (by decide)] at this
        exact this
      refine Or.inr ⟨mm_up J2 8 i 8 (nI (clB A i)), ⟨RepC_st0 (c := 7) hc2 hic (by decide), Fix_up (Fix_e j2 r2 (by decide)) (by omega), fr_up (fr_tr j3 (dC_39 r2 (by decide))) (by unfold dC hc; omega), fun p hp => by rw [up_F (by omega), r2 43 (by decide)]; exact j4 p hp⟩, ?_⟩
      unfold clB
      by_cases w : ruA A i 1 (nI 0) (bo A 99 i) = nI 0
      · rw [if_pos w]
        simp (disch := omega) only [e_H_closing_3, e_H_closing_4, e_H_closing_6, e_H_closing_7, e_H_closing_2 (x1 := nI i), lit, nad, nml, bd_s, ct_s, ct_n, a11, a01, aB2, bitA, nlt, nle, neq, dlT, dlF, deT, deF, dqT, dqF, nN, inb, nsb, ndv, nrm, if_true, if_false, ite_true, ite_false, true_and, and_true, and_self, and_false, false_and, or_true, true_or, or_false, false_or, or_self, ↓reduceIte, eq_self, Nat.reduceAdd, Nat.reduceMul, Nat.reduceSub, Nat.reduceDiv, Nat.reduceMod, Nat.zero_add, Nat.mul_zero, not_true_eq_false, not_false_eq_true, up_T, up_F, wr_T, wr_F, ngE, ngE', ngL, ngL', ngQ, ngQ', hst, r1, w]
      · rw [if_neg w]
        simp (disch := omega) only [e_H_closing_3, e_H_closing_4, e_H_closing_5, e_H_closing_7, e_H_closing_2 (x1 := nI i), lit, nad, nml, bd_s, ct_s, ct_n, a11, a01, aB2, bitA, nlt, nle, neq, dlT, dlF, deT, deF, dqT, dqF, nN, inb, nsb, ndv, nrm, if_true, if_false, ite_true, ite_false, true_and, and_true, and_self, and_false, false_and, or_true, true_or, or_false, false_or, or_self, ↓reduceIte, eq_self, Nat.reduceAdd, Nat.reduceMul, Nat.reduceSub, Nat.reduceDiv, Nat.reduceMod, Nat.zero_add, Nat.mul_zero, not_true_eq_false, not_false_eq_true, up_T, up_F, wr_T, wr_F, ngE, ngE', ngL, ngL', ngQ, ngQ', hst, r1, w]
    · rintro J ⟨j1, j2, j3, j4⟩
      have gi := csA_g g (A 0 0 0) (Nat.le_refl _)
      have hst : J 3 0 1 = nI (A 0 0 0) := by
        have := j1.1.1
        rw [csA_o (by decide)] at this
        exact this
      have sc := s_Hills_shutCount (d + 198) 0 _ J j1 gi
      have hs : sm (fun p => csA A (A 0 0 0) 1 p 7) (csA A (A 0 0 0) 0 0 0) = sm (clB A) (A 0 0 0) := by
        rw [show csA A (A 0 0 0) 0 0 0 = A 0 0 0 by rw [csA_o (show 0 ≠ 1 by decide)]]
        exact sm_congr (fun p hp => csA_7 (A := A) _ hp)
      rw [hs] at sc
      exact ⟨J, by simp (disch := omega) only [e_H_closing_2, e_H_closing_8, e_H_closing_9, lit, nad, nml, bd_s, ct_s, ct_n, a11, a01, aB2, bitA, nlt, nle, neq, dlT, dlF, deT, deF, dqT, dqF, nN, inb, nsb, ndv, nrm, if_true, if_false, ite_true, ite_false, true_and, and_true, and_self, and_false, false_and, or_true, true_or, or_false, false_or, or_self, ↓reduceIte, eq_self, Nat.reduceAdd, Nat.reduceMul, Nat.reduceSub, Nat.reduceDiv, Nat.reduceMod, Nat.zero_add, Nat.mul_zero, not_true_eq_false, not_false_eq_true, up_T, up_F, wr_T, wr_F, ngE, ngE', ngL, ngL', ngQ, ngQ', hst, sc], j1, j2, j3⟩
  · have hn := g.1.1
    obtain ⟨I1, t1, t2, t2', t3⟩ := s_M_findBoots (d + 194) 99 A I hR g (hzM h8)
    have hR1 : RepR 0 A I1 := RepR_o hR (by rw [t2 47 (by decide)])
    have s0 : Sn (d + 200) q_M_closing [.inr (12, 0)] I = Rn (d + 199) q_M_closing 2 [some (.inr (12, 0)), some (.inl (nI 0)), some (.inl (nI 0)), none] [] I1 := by
      simp (disch := omega) only [n_M_closing, e_M_closing_0, e_M_closing_1, lit, nad, nml, bd_s, ct_s, ct_n, a11, a01, aB2, bitA, nlt, nle, neq, dlT, dlF, deT, deF, dqT, dqF, nN, inb, nsb, ndv, nrm, if_true, if_false, ite_true, ite_false, true_and, and_true, and_self, and_false, false_and, or_true, true_or, or_false, false_or, or_self, ↓reduceIte, eq_self, Nat.reduceAdd, Nat.reduceMul, Nat.reduceSub, Nat.reduceDiv, Nat.reduceMod, Nat.zero_add, Nat.mul_zero, not_true_eq_false, not_false_eq_true, up_T, up_F, wr_T, wr_F, ngE, ngE', ngL, ngL', ngQ, ngQ', t1]
    rw [s0]
    refine lpX (n := A 0 0 0) (σ := mm_I × Option mm_V) (fun i s => Rn (d + 199) q_M_closing 2 [some (.inr (12, 0)), some (.inl (nI (sm (clB A) i))), some (.inl (nI i)), s.2] [] s.1) (fun i s => RepR 0 (csA A i) s.1 ∧ fr dM' I s.1 ∧ k12 I s.1 ∧ ∀ p, p < 16 → s.1 51 0 p = nI (bo A 99 p)) (fun q => ∃ I1, q = some (some (.inl (nI (sm (clB A) (A 0 0 0)))), (sh0, I1)) ∧ RepR 0 (csA A (A 0 0 0)) I1 ∧ fr dM' I I1 ∧ k12 I I1) ?_ ?_ 0 (I1, none) (Nat.zero_le _) ⟨hR1, dM_fb t2, k12_ex t2' (by decide), t3⟩
    · rintro i ⟨J, v⟩ hi ⟨j1, j2, j3, j4⟩
      dsimp only at j1 j2 j3 j4 ⊢
      have gi := csA_g g i (by omega)
      have hic : i < csA A i 0 0 0 := by rw [csA_o (by decide)]; exact hi
      obtain ⟨J2, r1, r2⟩ := s_M_ruled (d + 193) i 1 (bo A 99 i) (nI 0) (csA A i) J j1 gi hic (by decide) (fun _ => j4 i (by omega))
      rw [ru1_cong (csA_o (by decide) i) (csA_o (by decide) i) (csA_r i (Nat.le_refl _))] at r1
      have hR2 : RepR 0 (csA A i) J2 := RepR_o j1 (by rw [r2 47 (by decide)])
      have hst : J 47 0 0 = nI (A 0 0 0) := by
        have := j1.1 0 (by decide)
        rw [csA_o (by decide)] at this
        exact this
      refine Or.inr ⟨(mm_up J2 47 0 (12 + 9 * i + 7) (nI (clB A i)), some (.inl (nI (clB A i)))), ⟨RepR_st (c := 7) hR2 gi hic (by decide), fr_up (fr_tr j2 (dM_56 r2 (by decide))) (by unfold dM'; omega), k12_tr (k12_tr j3 (k12_e r2 (by decide))) (k12_up (by decide)), fun p hp => by dsimp only; rw [up_F (by omega), r2 51 (by decide)]; exact j4 p hp⟩, ?_⟩
      dsimp only
      rw [show sm (clB A) (i + 1) = sm (clB A) i + clB A i from rfl]
      have hcl : clB A i = if ruA A i 1 (nI 0) (bo A 99 i) = nI 0 then 0 else 1 := rfl
      by_cases w : ruA A i 1 (nI 0) (bo A 99 i) = nI 0
      · rw [if_pos w] at hcl
        rw [hcl]
        simp (disch := omega) only [e_M_closing_3, e_M_closing_4, e_M_closing_6, e_M_closing_7, e_M_closing_2 (x2 := nI i), lit, nad, nml, bd_s, ct_s, ct_n, a11, a01, aB2, bitA, nlt, nle, neq, dlT, dlF, deT, deF, dqT, dqF, nN, inb, nsb, ndv, nrm, if_true, if_false, ite_true, ite_false, true_and, and_true, and_self, and_false, false_and, or_true, true_or, or_false, false_or, or_self, ↓reduceIte, eq_self, Nat.reduceAdd, Nat.reduceMul, Nat.reduceSub, Nat.reduceDiv, Nat.reduceMod, Nat.zero_add, Nat.mul_zero, not_true_eq_false, not_false_eq_true, up_T, up_F, wr_T, wr_F, ngE, ngE', ngL, ngL', ngQ, ngQ', hst, r1, w, Nat.add_zero]
      · rw [if_neg w] at hcl
        rw [hcl]
        simp (disch := omega) only [e_M_closing_3, e_M_closing_4, e_M_closing_5, e_M_closing_7, e_M_closing_2 (x2 := nI i), lit, nad, nml, bd_s, ct_s, ct_n, a11, a01, aB2, bitA, nlt, nle, neq, dlT, dlF, deT, deF, dqT, dqF, nN, inb, nsb, ndv, nrm, if_true, if_false, ite_true, ite_false, true_and, and_true, and_self, and_false, false_and, or_true, true_or, or_false, false_or, or_self, ↓reduceIte, eq_self, Nat.reduceAdd, Nat.reduceMul, Nat.reduceSub, Nat.reduceDiv, Nat.reduceMod, Nat.zero_add, Nat.mul_zero, not_true_eq_false, not_false_eq_true, up_T, up_F, wr_T, wr_F, ngE, ngE', ngL, ngL', ngQ, ngQ', hst, r1, w]
    · rintro ⟨J, v⟩ ⟨j1, j2, j3, j4⟩
      dsimp only at j1 j2 j3 j4 ⊢
      have hst : J 47 0 0 = nI (A 0 0 0) := by
        have := j1.1 0 (by decide)
        rw [csA_o (by decide)] at this
        exact this
      exact ⟨J, by simp (disch := omega) only [e_M_closing_2, e_M_closing_8, lit, nad, nml, bd_s, ct_s, ct_n, a11, a01, aB2, bitA, nlt, nle, neq, dlT, dlF, deT, deF, dqT, dqF, nN, inb, nsb, ndv, nrm, if_true, if_false, ite_true, ite_false, true_and, and_true, and_self, and_false, false_and, or_true, true_or, or_false, false_or, or_self, ↓reduceIte, eq_self, Nat.reduceAdd, Nat.reduceMul, Nat.reduceSub, Nat.reduceDiv, Nat.reduceMod, Nat.zero_add, Nat.mul_zero, not_true_eq_false, not_false_eq_true, up_T, up_F, wr_T, wr_F, ngE, ngE', ngL, ngL', ngQ, ngQ', hst], j1, j2, j3⟩
