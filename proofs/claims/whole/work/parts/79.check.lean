/-! check, whole. -/
theorem Rst_chk {I I1 I2 : mm_I} (hr : Rst I) (F : Fix I1) (f1 : fr (fP 2) (mm_up I 11 0 16 (nI 0)) I1) (f2 : fr dM' (mm_up I1 12 0 47 (nI 0)) I2) (k2 : k12 (mm_up I1 12 0 47 (nI 0)) I2) : Rst I2 := by
  have a : ∀ k i j, rstC k i j → ¬ (k = 11 ∧ i = 0 ∧ j = 16) → I1 k i j = I k i j := fun k i j q z => by
    rw [f1 k i (by unfold fP wk5 hc; unfold rstC kstC tapC cntC htsC numC at q; omega), up_F (by omega)]
  have b : ∀ k i j, rstC k i j → k ≠ 12 → I2 k i j = I1 k i j := fun k i j q z => by
    rw [f2 k i (by unfold dM'; unfold rstC kstC tapC cntC htsC numC at q; omega), up_F (by omega)]
  have b12 : ∀ j, j = 8 ∨ j = 11 → I2 12 0 j = I1 12 0 j := fun j q => by
    rcases q with q | q <;> subst q
    · rw [k2.2.1, up_F (by omega)]
    · rw [k2.2.2.1, up_F (by omega)]
  have cc : ∀ k i j, rstC k i j → ¬ numC k i j → I2 k i j = I k i j := fun k i j q z => by
    by_cases e : k = 12
    · subst e
      have q2 : i = 0 ∧ (j = 8 ∨ j = 11) := by unfold rstC kstC tapC cntC htsC numC at q; unfold numC at z; omega
      rw [q2.1, b12 j q2.2]
      refine a _ _ _ ?_ (by omega)
      rw [← q2.1]; exact q
    · rw [b k i j q e]
      exact a k i j q (by unfold numC at z; omega)
  refine ⟨Fix_o F (fun r j _ => by rw [f2 7 r (by unfold dM'; omega), up_F (by omega)]), Kst_eq hr.2.1 (fun k i j q => cc k i j (Or.inl q) (by unfold kstC at q; unfold numC; omega)), Tap_eq hr.2.2.1 (fun k i j q => cc k i j (Or.inr (Or.inl q)) (by unfold tapC at q; unfold numC; omega)), Cnt_eq hr.2.2.2.1 (fun k i j q => cc k i j (Or.inr (Or.inr (Or.inl q))) (by unfold cntC at q; unfold numC; omega)), Hts_eq hr.2.2.2.2.1 (fun k i j q => cc k i j (Or.inr (Or.inr (Or.inr (Or.inl q)))) (by unfold htsC at q; unfold numC; omega)), 0, by omega, ?_, ?_, fun k hk => by omega⟩
  · rw [f2 11 0 (by unfold dM'; omega), up_F (by omega), f1 11 0 (by unfold fP wk5 hc; omega), up_s]
  · rw [k2.2.2.2, up_s]
theorem Ok_check (d : Nat) (t : Int32) : Ok (d + 200) q_H_check q_M_check [.inl t] := by
  rintro I ⟨hr, A, h1, h2, h3, h4, h5⟩
  obtain ⟨m, m1, m2, m3, m4⟩ := hr.2.2.2.2.2
  have fin : ∀ I1 I2, Fix I1 → fr (fP 2) (mm_up I 11 0 16 (nI 0)) I1 → fr dM' (mm_up I1 12 0 47 (nI 0)) I2 → k12 (mm_up I1 12 0 47 (nI 0)) I2 → RepR 0 A I2 → Inv I2 := by
    intro I1 I2 F f1 f2 k2 hR
    have e1 : ∀ k i, hc 0 k i ∨ hc 1 k i ∨ k = 9 ∨ k = 38 ∨ k = 47 → I1 k i = I k i := fun k i q => by
      have : ¬ fP 2 k i := by
        unfold fP wk5
        rintro (z | z)
        · rcases q with q | q | q | q | q
          · exact hc_dis (by decide) (Or.inl q) z
          · exact hc_dis (by decide) (Or.inl q) z
          · unfold hc at z; omega
          · unfold hc at z; omega
          · unfold hc at z; omega
        · unfold hc at q; omega
      rw [f1 k i this]
      funext j
      exact up_F (by unfold hc at q; omega)
    have e2 : ∀ k i, hc 0 k i ∨ hc 1 k i ∨ k = 9 ∨ k = 38 ∨ (k = 47 ∧ i = 1) → I2 k i = I1 k i := fun k i q => by
      rw [f2 k i (by unfold dM'; unfold hc at q; omega)]
      funext j
      exact up_F (by unfold hc at q; omega)
    refine ⟨Rst_chk hr F f1 f2 k2, A, RepC_fr h1 h3 (fun k i q => ?_), hR, h3, h4, Img_fr h5 (Nat.le_refl _) ?_ ?_ (fun k i q => ?_) ?_⟩
    · rw [e2 k i, e1 k i]
      · rcases q with q | q | q
        · exact Or.inl q
        · exact Or.inr (Or.inr (Or.inl q))
        · exact Or.inr (Or.inr (Or.inr (Or.inl q)))
      · rcases q with q | q | q
        · exact Or.inl q
        · exact Or.inr (Or.inr (Or.inl q))
        · exact Or.inr (Or.inr (Or.inr (Or.inl q)))
    · rw [f2 11 0 (by unfold dM'; omega), up_F (by omega), f1 11 0 (by unfold fP wk5 hc; omega), up_F (by omega)]
    · rw [k2.1, up_F (by omega), f1 12 0 (by unfold fP wk5 hc; omega), up_F (by omega)]
    · rw [e2 k i, e1 k i]
      · rcases q with q | q | q
        · exact Or.inr (Or.inl q)
        · exact Or.inr (Or.inr (Or.inl q))
        · exact Or.inr (Or.inr (Or.inr (Or.inl q)))
      · rcases q with q | q | q
        · exact Or.inr (Or.inl q)
        · exact Or.inr (Or.inr (Or.inl q))
        · exact Or.inr (Or.inr (Or.inr (Or.inl q)))
    · rw [e2 47 1 (by omega), e1 47 1 (by omega)]
  have triv : ∀ r, Sn (d + 200) q_H_check [.inr (11, 0), .inl t] I = some (some (.inl r), (sh0, mm_up I 11 0 16 (nI 0))) → Sn (d + 200) q_M_check [.inr (12, 0), .inl t] (mm_up I 11 0 16 (nI 0)) = some (some (.inl r), (sh0, mm_up (mm_up I 11 0 16 (nI 0)) 12 0 47 (nI 0))) → ∃ r I1 I2, Sn (d + 200) q_H_check [.inr (11, 0), .inl t] I = some (some (.inl r), (sh0, I1)) ∧ Sn (d + 200) q_M_check [.inr (12, 0), .inl t] I1 = some (some (.inl r), (sh0, I2)) ∧ Inv I2 := fun r q1 q2 => ⟨r, _, _, q1, q2, fin _ _ (Fix_up hr.1 (by omega)) (fr_rf _ _) (fr_rf _ _) (k12_rf _) (RepR_o h2 (by funext j; simp (disch := omega) only [up_F]))⟩
  have x3 : (mm_up I 11 0 16 (nI 0)) 12 0 47 = nI m := by rw [up_F (by omega)]; exact m3
  by_cases hb : nI 1 ≤ t ∧ t ≤ nI 20
  rotate_left
  · refine triv (-nI 1000000001) ?_ ?_
    · simp (disch := omega) only [n_H_check, e_H_check_0, e_H_check_1, e_H_check_2, s_H_within, lit, nad, nml, bd_s, ct_s, ct_n, a11, a01, aB2, bitA, nlt, nle, neq, dlT, dlF, deT, deF, dqT, dqF, nN, inb, nsb, ndv, nrm, if_true, if_false, ite_true, ite_false, true_and, and_true, and_self, and_false, false_and, or_true, true_or, or_false, false_or, or_self, ↓reduceIte, eq_self, Nat.reduceAdd, Nat.reduceMul, Nat.reduceSub, Nat.reduceDiv, Nat.reduceMod, Nat.zero_add, Nat.mul_zero, not_true_eq_false, not_false_eq_true, up_T, up_F, wr_T, wr_F, ngE, ngE', ngL, ngL', ngQ, ngQ', hb, m2]
    · simp (disch := omega) only [n_M_check, e_M_check_0, e_M_check_1, e_M_check_2, s_M_in, lit, nad, nml, bd_s, ct_s, ct_n, a11, a01, aB2, bitA, nlt, nle, neq, dlT, dlF, deT, deF, dqT, dqF, nN, inb, nsb, ndv, nrm, if_true, if_false, ite_true, ite_false, true_and, and_true, and_self, and_false, false_and, or_true, true_or, or_false, false_or, or_self, ↓reduceIte, eq_self, Nat.reduceAdd, Nat.reduceMul, Nat.reduceSub, Nat.reduceDiv, Nat.reduceMod, Nat.zero_add, Nat.mul_zero, not_true_eq_false, not_false_eq_true, up_T, up_F, wr_T, wr_F, ngE, ngE', ngL, ngL', ngQ, ngQ', hb, m3]
  obtain ⟨n, n0, n1, n2⟩ := wof hb (by decide) (by decide)
  subst n2
  rcases h5 with ⟨h5, h6⟩ | ⟨h5, h6, B, k1, k2, k3, k4, k5⟩
  · refine triv (-nI 1000000002) ?_ ?_
    · simp (disch := omega) only [n_H_check, e_H_check_0, e_H_check_1, e_H_check_3, e_H_check_4, s_H_within, lit, nad, nml, bd_s, ct_s, ct_n, a11, a01, aB2, bitA, nlt, nle, neq, dlT, dlF, deT, deF, dqT, dqF, nN, inb, nsb, ndv, nrm, if_true, if_false, ite_true, ite_false, true_and, and_true, and_self, and_false, false_and, or_true, true_or, or_false, false_or, or_self, ↓reduceIte, eq_self, Nat.reduceAdd, Nat.reduceMul, Nat.reduceSub, Nat.reduceDiv, Nat.reduceMod, Nat.zero_add, Nat.mul_zero, not_true_eq_false, not_false_eq_true, up_T, up_F, wr_T, wr_F, ngE, ngE', ngL, ngL', ngQ, ngQ', m2, h5]
    · simp (disch := omega) only [n_M_check, e_M_check_0, e_M_check_1, e_M_check_3, e_M_check_4, s_M_in, lit, nad, nml, bd_s, ct_s, ct_n, a11, a01, aB2, bitA, nlt, nle, neq, dlT, dlF, deT, deF, dqT, dqF, nN, inb, nsb, ndv, nrm, if_true, if_false, ite_true, ite_false, true_and, and_true, and_self, and_false, false_and, or_true, true_or, or_false, false_or, or_self, ↓reduceIte, eq_self, Nat.reduceAdd, Nat.reduceMul, Nat.reduceSub, Nat.reduceDiv, Nat.reduceMod, Nat.zero_add, Nat.mul_zero, not_true_eq_false, not_false_eq_true, up_T, up_F, wr_T, wr_F, ngE, ngE', ngL, ngL', ngQ, ngQ', m3, h6]
  · obtain ⟨I1, a1, a2, a3⟩ := s_H_check (d + 194) n m (fun k => I 46 0 k) B I k1 hr.1 k3 k4 n0 n1 m1 m2 h5 (fun k _ => rfl)
    have e1 : ∀ k i, k = 47 ∨ k = 12 ∨ k = 71 → I1 k i = I k i := fun k i q => by
      rw [a3 k i (by unfold fP wk5 hc; omega)]
      funext j
      exact up_F (by omega)
    obtain ⟨I2, b1, b2, b3, b4⟩ := s_M_check (d + 193) n m (fun k => I 46 0 k) A B I1 (RepR_o h2 (e1 47 0 (by omega))) h3 (RepR_o k2 (e1 47 1 (by omega))) k3 k4 n0 n1 m1 (by rw [e1 12 0 (by omega)]; exact m3) (by rw [e1 12 0 (by omega)]; exact h6) (by rw [e1 12 0 (by omega)]; exact hr.2.1.1) (fun k hk => by rw [e1 71 0 (by omega)]; exact m4 k hk)
    exact ⟨_, I1, I2, a1, b1, fin I1 I2 a2 a3 b3 b4 b2⟩
