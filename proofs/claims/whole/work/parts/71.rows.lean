/-! Calls: load, person, job, donor. -/
theorem Ok_load (d : Nat) (w : Int32) : Ok (d + 200) q_H_load q_M_load [.inl w] := by
  by_cases h0 : nI 1 ≤ w ∧ w ≤ nI 99
  · obtain ⟨w', w1, w2, w3⟩ := wof h0 (by decide) (by decide)
    subst w3
    refine call_hill (fun A => if A 0 0 6 < 10 then nI (A 0 0 6) else -nI 1000000003) (fun A => if A 0 0 6 < 10 then rowA A 4 w' 0 0 else A) (fun A I hC F g _ => ?_) (fun A I hR g _ _ => ?_) (fun A g h => ?_)
    · have ha := s_add0 (d + 195) 4 w' 0 0 A I hC F g (by decide)
      have hb : A 0 0 6 ≤ 10 := g.2.1 4 (by decide)
      have hm : I 7 4 3 = nI (A 0 0 6) := c0_mn hC (t := 4) (by decide)
      have hf : I 7 4 1 = nI 10 := (F 4 (by decide)).1
      by_cases e : A 0 0 6 < 10
      · rw [if_pos (show A 0 0 (tH 4) < tM 4 from e)] at ha
        simp only [if_pos e]
        refine ⟨_, ?_, RepC_add0 hC (t := 4) (by decide), Fix_add F, fr_add (by decide)⟩
        simp (disch := omega) only [n_H_load, e_H_load_0, e_H_load_1, e_H_load_2, e_H_load_3, e_H_load_4, s_H_within, lit, nad, nml, bd_s, ct_s, ct_n, a11, a01, aB2, bitA, nlt, nle, neq, dlT, dlF, deT, deF, dqT, dqF, nN, inb, nsb, ndv, nrm, if_true, if_false, ite_true, ite_false, true_and, and_true, and_self, and_false, false_and, or_true, true_or, or_false, false_or, or_self, reduceIte, eq_self, Nat.reduceAdd, Nat.reduceMul, Nat.reduceSub, Nat.reduceDiv, Nat.reduceMod, Nat.zero_add, Nat.mul_zero, not_true_eq_false, not_false_eq_true, up_T, up_F, wr_T, wr_F, ngE, ngE', ngL, ngL', ngQ, ngQ', ha]
        try rfl
      · rw [if_neg (show ¬ A 0 0 (tH 4) < tM 4 from e)] at ha
        simp only [if_neg e]
        refine ⟨I, ?_, hC, F, fr_rf _ _⟩
        simp (disch := omega) only [n_H_load, e_H_load_0, e_H_load_1, e_H_load_2, e_H_load_3, e_H_load_4, s_H_within, lit, nad, nml, bd_s, ct_s, ct_n, a11, a01, aB2, bitA, nlt, nle, neq, dlT, dlF, deT, deF, dqT, dqF, nN, inb, nsb, ndv, nrm, if_true, if_false, ite_true, ite_false, true_and, and_true, and_self, and_false, false_and, or_true, true_or, or_false, false_or, or_self, reduceIte, eq_self, Nat.reduceAdd, Nat.reduceMul, Nat.reduceSub, Nat.reduceDiv, Nat.reduceMod, Nat.zero_add, Nat.mul_zero, not_true_eq_false, not_false_eq_true, up_T, up_F, wr_T, wr_F, ngE, ngE', ngL, ngL', ngQ, ngQ', ha]
    · have hn : I 47 0 6 = nI (A 0 0 6) := hR.1 6 (by decide)
      have hb : A 0 0 6 ≤ 10 := g.2.1 4 (by decide)
      by_cases e : A 0 0 6 < 10
      · simp only [if_pos e]
        refine ⟨mm_up (mm_up I 47 0 (302 + A 0 0 6) (nI w')) 47 0 6 (nI (A 0 0 6 + 1)), ?_, RepR_add (t := 4) hR g (by decide) e (up_s _ _ _ _ _) (fun c hc => ?_) (fun i i1 i2 => ?_), ?_, ?_⟩
        · simp (disch := omega) only [n_M_load, e_M_load_0, e_M_load_1, e_M_load_2, e_M_load_3, e_M_load_4, e_M_load_5, s_M_in, lit, nad, nml, bd_s, ct_s, ct_n, a11, a01, aB2, bitA, nlt, nle, neq, dlT, dlF, deT, deF, dqT, dqF, nN, inb, nsb, ndv, nrm, if_true, if_false, ite_true, ite_false, true_and, and_true, and_self, and_false, false_and, or_true, true_or, or_false, false_or, or_self, reduceIte, eq_self, Nat.reduceAdd, Nat.reduceMul, Nat.reduceSub, Nat.reduceDiv, Nat.reduceMod, Nat.zero_add, Nat.mul_zero, not_true_eq_false, not_false_eq_true, up_T, up_F, wr_T, wr_F, ngE, ngE', ngL, ngL', ngQ, ngQ', hn, Nat.add_sub_cancel]
        · rcases (show c = 0 by have : c < 1 := hc; omega) with q <;> subst q
          · show mm_up _ 47 0 6 _ 47 0 (302 + 1 * A 0 0 6 + 0) = _
            simp (disch := omega) only [up_T, up_F]
            rfl
        · have i3 : i ≠ 6 := i1
          have i4 : ¬ (302 + 1 * A 0 0 6 ≤ i ∧ i < 302 + 1 * A 0 0 6 + 1) := i2
          simp (disch := omega) only [up_F]
        · exact fr_up (fr_up (fr_rf _ _) (by unfold dM'; omega)) (by unfold dM'; omega)
        · exact k12_of (by funext i j'; simp (disch := omega) only [up_F])
      · simp only [if_neg e]
        refine ⟨I, ?_, hR, fr_rf _ _, k12_rf _⟩
        simp (disch := omega) only [n_M_load, e_M_load_0, e_M_load_1, e_M_load_2, e_M_load_3, e_M_load_4, e_M_load_5, s_M_in, lit, nad, nml, bd_s, ct_s, ct_n, a11, a01, aB2, bitA, nlt, nle, neq, dlT, dlF, deT, deF, dqT, dqF, nN, inb, nsb, ndv, nrm, if_true, if_false, ite_true, ite_false, true_and, and_true, and_self, and_false, false_and, or_true, true_or, or_false, false_or, or_self, reduceIte, eq_self, Nat.reduceAdd, Nat.reduceMul, Nat.reduceSub, Nat.reduceDiv, Nat.reduceMod, Nat.zero_add, Nat.mul_zero, not_true_eq_false, not_false_eq_true, up_T, up_F, wr_T, wr_F, ngE, ngE', ngL, ngL', ngQ, ngQ', hn]
    · by_cases e : A 0 0 6 < 10
      · simp only [if_pos e]
        refine ⟨Good_add g (by decide) e ?_, by rw [rowA_0 (by decide)]; exact h, rowA_0 (by decide)⟩
        unfold rowG ro3
        refine ⟨fun q => by omega, fun q => by omega, fun q => by omega, fun q => by omega, fun _ => ?_, fun q => by omega, fun q => by omega⟩
        simp
        omega
      · simp only [if_neg e]
        exact ⟨g, h, trivial⟩
  · refine call_id (fun _ => -nI 1000000001) (fun A I hC _ g _ => ?_) (fun A I hR g _ _ => ?_)
    · simp (disch := omega) only [n_H_load, e_H_load_0, e_H_load_1, e_H_load_2, e_H_load_3, e_H_load_4, s_H_within, lit, nad, nml, bd_s, ct_s, ct_n, a11, a01, aB2, bitA, nlt, nle, neq, dlT, dlF, deT, deF, dqT, dqF, nN, inb, nsb, ndv, nrm, if_true, if_false, ite_true, ite_false, true_and, and_true, and_self, and_false, false_and, or_true, true_or, or_false, false_or, or_self, reduceIte, eq_self, Nat.reduceAdd, Nat.reduceMul, Nat.reduceSub, Nat.reduceDiv, Nat.reduceMod, Nat.zero_add, Nat.mul_zero, not_true_eq_false, not_false_eq_true, up_T, up_F, wr_T, wr_F, ngE, ngE', ngL, ngL', ngQ, ngQ', h0]
    · simp (disch := omega) only [n_M_load, e_M_load_0, e_M_load_1, e_M_load_2, e_M_load_3, e_M_load_4, e_M_load_5, s_M_in, lit, nad, nml, bd_s, ct_s, ct_n, a11, a01, aB2, bitA, nlt, nle, neq, dlT, dlF, deT, deF, dqT, dqF, nN, inb, nsb, ndv, nrm, if_true, if_false, ite_true, ite_false, true_and, and_true, and_self, and_false, false_and, or_true, true_or, or_false, false_or, or_self, reduceIte, eq_self, Nat.reduceAdd, Nat.reduceMul, Nat.reduceSub, Nat.reduceDiv, Nat.reduceMod, Nat.zero_add, Nat.mul_zero, not_true_eq_false, not_false_eq_true, up_T, up_F, wr_T, wr_F, ngE, ngE', ngL, ngL', ngQ, ngQ', h0]
theorem x_M_person (d a b m : Nat) (I : mm_I) (hn : I 47 0 7 = nI m) (hm : m < 10) : Rn d q_M_person 7 [some (.inr (12, 0)), some (.inl (nI a)), some (.inl (nI b))] [] I = some (some (.inl (nI (m))), (sh0, mm_up (mm_up (mm_up I 47 0 (312 + 2 * m) (nI a)) 47 0 (312 + 2 * m + 1) (nI b)) 47 0 7 (nI (m + 1)))) := by
  simp (disch := omega) only [e_M_person_7, ep_M_person_7_0, ep_M_person_7_1, ep_M_person_7_2, eb_M_person_7, lit, nad, nml, bd_s, ct_s, ct_n, a11, a01, aB2, bitA, nlt, nle, neq, dlT, dlF, deT, deF, dqT, dqF, nN, inb, nsb, ndv, nrm, if_true, if_false, ite_true, ite_false, true_and, and_true, and_self, and_false, false_and, or_true, true_or, or_false, false_or, or_self, reduceIte, eq_self, Nat.reduceAdd, Nat.reduceMul, Nat.reduceSub, Nat.reduceDiv, Nat.reduceMod, Nat.zero_add, Nat.mul_zero, not_true_eq_false, not_false_eq_true, up_T, up_F, wr_T, wr_F, ngE, ngE', ngL, ngL', ngQ, ngQ', hn, Nat.add_sub_cancel]
theorem Ok_person (d : Nat) (s w : Int32) : Ok (d + 200) q_H_person q_M_person [.inl s, .inl w] := by
  by_cases h0 : nI 0 ≤ s ∧ s ≤ nI 15
  · obtain ⟨s', s1, s2, s3⟩ := wof h0 (by decide) (by decide)
    subst s3
    by_cases h1 : nI 0 ≤ w ∧ w ≤ nI 63
    · obtain ⟨w', w1, w2, w3⟩ := wof h1 (by decide) (by decide)
      subst w3
      refine call_hill (fun A => if A 0 0 7 < 10 then nI (A 0 0 7) else -nI 1000000003) (fun A => if A 0 0 7 < 10 then rowA A 5 s' w' 0 else A) (fun A I hC F g _ => ?_) (fun A I hR g _ _ => ?_) (fun A g h => ?_)
      · have ha := s_add0 (d + 195) 5 s' w' 0 A I hC F g (by decide)
        have hb : A 0 0 7 ≤ 10 := g.2.1 5 (by decide)
        have hm : I 7 5 3 = nI (A 0 0 7) := c0_mn hC (t := 5) (by decide)
        have hf : I 7 5 1 = nI 10 := (F 5 (by decide)).1
        by_cases e : A 0 0 7 < 10
        · rw [if_pos (show A 0 0 (tH 5) < tM 5 from e)] at ha
          simp only [if_pos e]
          refine ⟨_, ?_, RepC_add0 hC (t := 5) (by decide), Fix_add F, fr_add (by decide)⟩
          simp (disch := omega) only [n_H_person, e_H_person_0, e_H_person_1, e_H_person_2, e_H_person_3, e_H_person_4, e_H_person_5, e_H_person_6, s_H_within, lit, nad, nml, bd_s, ct_s, ct_n, a11, a01, aB2, bitA, nlt, nle, neq, dlT, dlF, deT, deF, dqT, dqF, nN, inb, nsb, ndv, nrm, if_true, if_false, ite_true, ite_false, true_and, and_true, and_self, and_false, false_and, or_true, true_or, or_false, false_or, or_self, reduceIte, eq_self, Nat.reduceAdd, Nat.reduceMul, Nat.reduceSub, Nat.reduceDiv, Nat.reduceMod, Nat.zero_add, Nat.mul_zero, not_true_eq_false, not_false_eq_true, up_T, up_F, wr_T, wr_F, ngE, ngE', ngL, ngL', ngQ, ngQ', ha]
          try rfl
        · rw [if_neg (show ¬ A 0 0 (tH 5) < tM 5 from e)] at ha
          simp only [if_neg e]
          refine ⟨I, ?_, hC, F, fr_rf _ _⟩
          simp (disch := omega) only [n_H_person, e_H_person_0, e_H_person_1, e_H_person_2, e_H_person_3, e_H_person_4, e_H_person_5, e_H_person_6, s_H_within, lit, nad, nml, bd_s, ct_s, ct_n, a11, a01, aB2, bitA, nlt, nle, neq, dlT, dlF, deT, deF, dqT, dqF, nN, inb, nsb, ndv, nrm, if_true, if_false, ite_true, ite_false, true_and, and_true, and_self, and_false, false_and, or_true, true_or, or_false, false_or, or_self, reduceIte, eq_self, Nat.reduceAdd, Nat.reduceMul, Nat.reduceSub, Nat.reduceDiv, Nat.reduceMod, Nat.zero_add, Nat.mul_zero, not_true_eq_false, not_false_eq_true, up_T, up_F, wr_T, wr_F, ngE, ngE', ngL, ngL', ngQ, ngQ', ha]
      · have hn : I 47 0 7 = nI (A 0 0 7) := hR.1 7 (by decide)
        have hb : A 0 0 7 ≤ 10 := g.2.1 5 (by decide)
        by_cases e : A 0 0 7 < 10
        · simp only [if_pos e]
          refine ⟨mm_up (mm_up (mm_up I 47 0 (312 + 2 * A 0 0 7) (nI s')) 47 0 (312 + 2 * A 0 0 7 + 1) (nI w')) 47 0 7 (nI (A 0 0 7 + 1)), ?_, RepR_add (t := 5) hR g (by decide) e (up_s _ _ _ _ _) (fun c hc => ?_) (fun i i1 i2 => ?_), ?_, ?_⟩
          · have hx := x_M_person (d + 199) s' w' _ I hn e
            simp (disch := omega) only [n_M_person, e_M_person_0, e_M_person_1, e_M_person_2, e_M_person_3, e_M_person_4, e_M_person_5, e_M_person_6, s_M_in, lit, nad, nml, bd_s, ct_s, ct_n, a11, a01, aB2, bitA, nlt, nle, neq, dlT, dlF, deT, deF, dqT, dqF, nN, inb, nsb, ndv, nrm, if_true, if_false, ite_true, ite_false, true_and, and_true, and_self, and_false, false_and, or_true, true_or, or_false, false_or, or_self, reduceIte, eq_self, Nat.reduceAdd, Nat.reduceMul, Nat.reduceSub, Nat.reduceDiv, Nat.reduceMod, Nat.zero_add, Nat.mul_zero, not_true_eq_false, not_false_eq_true, up_T, up_F, wr_T, wr_F, ngE, ngE', ngL, ngL', ngQ, ngQ', hn, hx]
          · rcases (show c = 0 ∨ c = 1 by have : c < 2 := hc; omega) with q | q <;> subst q
            · show mm_up _ 47 0 7 _ 47 0 (312 + 2 * A 0 0 7 + 0) = _
              simp (disch := omega) only [up_T, up_F]
              rfl
            · show mm_up _ 47 0 7 _ 47 0 (312 + 2 * A 0 0 7 + 1) = _
              simp (disch := omega) only [up_T, up_F]
              rfl
          · have i3 : i ≠ 7 := i1
            have i4 : ¬ (312 + 2 * A 0 0 7 ≤ i ∧ i < 312 + 2 * A 0 0 7 + 2) := i2
            simp (disch := omega) only [up_F]
          · exact fr_up (fr_up (fr_up (fr_rf _ _) (by unfold dM'; omega)) (by unfold dM'; omega)) (by unfold dM'; omega)
          · exact k12_of (by funext i j'; simp (disch := omega) only [up_F])
        · simp only [if_neg e]
          refine ⟨I, ?_, hR, fr_rf _ _, k12_rf _⟩
          simp (disch := omega) only [n_M_person, e_M_person_0, e_M_person_1, e_M_person_2, e_M_person_3, e_M_person_4, e_M_person_5, e_M_person_6, s_M_in, lit, nad, nml, bd_s, ct_s, ct_n, a11, a01, aB2, bitA, nlt, nle, neq, dlT, dlF, deT, deF, dqT, dqF, nN, inb, nsb, ndv, nrm, if_true, if_false, ite_true, ite_false, true_and, and_true, and_self, and_false, false_and, or_true, true_or, or_false, false_or, or_self, reduceIte, eq_self, Nat.reduceAdd, Nat.reduceMul, Nat.reduceSub, Nat.reduceDiv, Nat.reduceMod, Nat.zero_add, Nat.mul_zero, not_true_eq_false, not_false_eq_true, up_T, up_F, wr_T, wr_F, ngE, ngE', ngL, ngL', ngQ, ngQ', hn]
      · by_cases e : A 0 0 7 < 10
        · simp only [if_pos e]
          refine ⟨Good_add g (by decide) e ?_, by rw [rowA_0 (by decide)]; exact h, rowA_0 (by decide)⟩
          unfold rowG ro3
          refine ⟨fun q => by omega, fun q => by omega, fun q => by omega, fun q => by omega, fun q => by omega, fun _ => ?_, fun q => by omega⟩
          simp
          omega
        · simp only [if_neg e]
          exact ⟨g, h, trivial⟩
    · refine call_id (fun _ => -nI 1000000001) (fun A I hC _ g _ => ?_) (fun A I hR g _ _ => ?_)
      · simp (disch := omega) only [n_H_person, e_H_person_0, e_H_person_1, e_H_person_2, e_H_person_3, e_H_person_4, e_H_person_5, e_H_person_6, s_H_within, lit, nad, nml, bd_s, ct_s, ct_n, a11, a01, aB2, bitA, nlt, nle, neq, dlT, dlF, deT, deF, dqT, dqF, nN, inb, nsb, ndv, nrm, if_true, if_false, ite_true, ite_false, true_and, and_true, and_self, and_false, false_and, or_true, true_or, or_false, false_or, or_self, reduceIte, eq_self, Nat.reduceAdd, Nat.reduceMul, Nat.reduceSub, Nat.reduceDiv, Nat.reduceMod, Nat.zero_add, Nat.mul_zero, not_true_eq_false, not_false_eq_true, up_T, up_F, wr_T, wr_F, ngE, ngE', ngL, ngL', ngQ, ngQ', h1]
      · simp (disch := omega) only [n_M_person, e_M_person_0, e_M_person_1, e_M_person_2, e_M_person_3, e_M_person_4, e_M_person_5, e_M_person_6, s_M_in, lit, nad, nml, bd_s, ct_s, ct_n, a11, a01, aB2, bitA, nlt, nle, neq, dlT, dlF, deT, deF, dqT, dqF, nN, inb, nsb, ndv, nrm, if_true, if_false, ite_true, ite_false, true_and, and_true, and_self, and_false, false_and, or_true, true_or, or_false, false_or, or_self, reduceIte, eq_self, Nat.reduceAdd, Nat.reduceMul, Nat.reduceSub, Nat.reduceDiv, Nat.reduceMod, Nat.zero_add, Nat.mul_zero, not_true_eq_false, not_false_eq_true, up_T, up_F, wr_T, wr_F, ngE, ngE', ngL, ngL', ngQ, ngQ', h1]
  · refine call_id (fun _ => -nI 1000000001) (fun A I hC _ g _ => ?_) (fun A I hR g _ _ => ?_)
    · simp (disch := omega) only [n_H_person, e_H_person_0, e_H_person_1, e_H_person_2, e_H_person_3, e_H_person_4, e_H_person_5, e_H_person_6, s_H_within, lit, nad, nml, bd_s, ct_s, ct_n, a11, a01, aB2, bitA, nlt, nle, neq, dlT, dlF, deT, deF, dqT, dqF, nN, inb, nsb, ndv, nrm, if_true, if_false, ite_true, ite_false, true_and, and_true, and_self, and_false, false_and, or_true, true_or, or_false, false_or, or_self, reduceIte, eq_self, Nat.reduceAdd, Nat.reduceMul, Nat.reduceSub, Nat.reduceDiv, Nat.reduceMod, Nat.zero_add, Nat.mul_zero, not_true_eq_false, not_false_eq_true, up_T, up_F, wr_T, wr_F, ngE, ngE', ngL, ngL', ngQ, ngQ', h0]
    · simp (disch := omega) only [n_M_person, e_M_person_0, e_M_person_1, e_M_person_2, e_M_person_3, e_M_person_4, e_M_person_5, e_M_person_6, s_M_in, lit, nad, nml, bd_s, ct_s, ct_n, a11, a01, aB2, bitA, nlt, nle, neq, dlT, dlF, deT, deF, dqT, dqF, nN, inb, nsb, ndv, nrm, if_true, if_false, ite_true, ite_false, true_and, and_true, and_self, and_false, false_and, or_true, true_or, or_false, false_or, or_self, reduceIte, eq_self, Nat.reduceAdd, Nat.reduceMul, Nat.reduceSub, Nat.reduceDiv, Nat.reduceMod, Nat.zero_add, Nat.mul_zero, not_true_eq_false, not_false_eq_true, up_T, up_F, wr_T, wr_F, ngE, ngE', ngL, ngL', ngQ, ngQ', h0]
theorem x_M_job (d a b m : Nat) (I : mm_I) (hn : I 47 0 8 = nI m) (hm : m < 4) : Rn d q_M_job 7 [some (.inr (12, 0)), some (.inl (nI a)), some (.inl (nI b))] [] I = some (some (.inl (nI (m))), (sh0, mm_up (mm_up (mm_up I 47 0 (332 + 2 * m) (nI a)) 47 0 (332 + 2 * m + 1) (nI b)) 47 0 8 (nI (m + 1)))) := by
  simp (disch := omega) only [e_M_job_7, ep_M_job_7_0, ep_M_job_7_1, ep_M_job_7_2, eb_M_job_7, lit, nad, nml, bd_s, ct_s, ct_n, a11, a01, aB2, bitA, nlt, nle, neq, dlT, dlF, deT, deF, dqT, dqF, nN, inb, nsb, ndv, nrm, if_true, if_false, ite_true, ite_false, true_and, and_true, and_self, and_false, false_and, or_true, true_or, or_false, false_or, or_self, reduceIte, eq_self, Nat.reduceAdd, Nat.reduceMul, Nat.reduceSub, Nat.reduceDiv, Nat.reduceMod, Nat.zero_add, Nat.mul_zero, not_true_eq_false, not_false_eq_true, up_T, up_F, wr_T, wr_F, ngE, ngE', ngL, ngL', ngQ, ngQ', hn, Nat.add_sub_cancel]
theorem Ok_job (d : Nat) (s w : Int32) : Ok (d + 200) q_H_job q_M_job [.inl s, .inl w] := by
  by_cases h0 : nI 0 ≤ s ∧ s ≤ nI 3
  · obtain ⟨s', s1, s2, s3⟩ := wof h0 (by decide) (by decide)
    subst s3
    by_cases h1 : nI 1 ≤ w ∧ w ≤ nI 60
    · obtain ⟨w', w1, w2, w3⟩ := wof h1 (by decide) (by decide)
      subst w3
      refine call_hill (fun A => if A 0 0 8 < 4 then nI (A 0 0 8) else -nI 1000000003) (fun A => if A 0 0 8 < 4 then rowA A 6 s' w' 0 else A) (fun A I hC F g _ => ?_) (fun A I hR g _ _ => ?_) (fun A g h => ?_)
      · have ha := s_add0 (d + 195) 6 s' w' 0 A I hC F g (by decide)
        have hb : A 0 0 8 ≤ 4 := g.2.1 6 (by decide)
        have hm : I 7 6 3 = nI (A 0 0 8) := c0_mn hC (t := 6) (by decide)
        have hf : I 7 6 1 = nI 4 := (F 6 (by decide)).1
        by_cases e : A 0 0 8 < 4
        · rw [if_pos (show A 0 0 (tH 6) < tM 6 from e)] at ha
          simp only [if_pos e]
          refine ⟨_, ?_, RepC_add0 hC (t := 6) (by decide), Fix_add F, fr_add (by decide)⟩
          simp (disch := omega) only [n_H_job, e_H_job_0, e_H_job_1, e_H_job_2, e_H_job_3, e_H_job_4, e_H_job_5, e_H_job_6, s_H_within, lit, nad, nml, bd_s, ct_s, ct_n, a11, a01, aB2, bitA, nlt, nle, neq, dlT, dlF, deT, deF, dqT, dqF, nN, inb, nsb, ndv, nrm, if_true, if_false, ite_true, ite_false, true_and, and_true, and_self, and_false, false_and, or_true, true_or, or_false, false_or, or_self, reduceIte, eq_self, Nat.reduceAdd, Nat.reduceMul, Nat.reduceSub, Nat.reduceDiv, Nat.reduceMod, Nat.zero_add, Nat.mul_zero, not_true_eq_false, not_false_eq_true, up_T, up_F, wr_T, wr_F, ngE, ngE', ngL, ngL', ngQ, ngQ', ha]
          try rfl
        · rw [if_neg (show ¬ A 0 0 (tH 6) < tM 6 from e)] at ha
          simp only [if_neg e]
          refine ⟨I, ?_, hC, F, fr_rf _ _⟩
          simp (disch := omega) only [n_H_job, e_H_job_0, e_H_job_1, e_H_job_2, e_H_job_3, e_H_job_4, e_H_job_5, e_H_job_6, s_H_within, lit, nad, nml, bd_s, ct_s, ct_n, a11, a01, aB2, bitA, nlt, nle, neq, dlT, dlF, deT, deF, dqT, dqF, nN, inb, nsb, ndv, nrm, if_true, if_false, ite_true, ite_false, true_and, and_true, and_self, and_false, false_and, or_true, true_or, or_false, false_or, or_self, reduceIte, eq_self, Nat.reduceAdd, Nat.reduceMul, Nat.reduceSub, Nat.reduceDiv, Nat.reduceMod, Nat.zero_add, Nat.mul_zero, not_true_eq_false, not_false_eq_true, up_T, up_F, wr_T, wr_F, ngE, ngE', ngL, ngL', ngQ, ngQ', ha]
      · have hn : I 47 0 8 = nI (A 0 0 8) := hR.1 8 (by decide)
        have hb : A 0 0 8 ≤ 4 := g.2.1 6 (by decide)
        by_cases e : A 0 0 8 < 4
        · simp only [if_pos e]
          refine ⟨mm_up (mm_up (mm_up I 47 0 (332 + 2 * A 0 0 8) (nI s')) 47 0 (332 + 2 * A 0 0 8 + 1) (nI w')) 47 0 8 (nI (A 0 0 8 + 1)), ?_, RepR_add (t := 6) hR g (by decide) e (up_s _ _ _ _ _) (fun c hc => ?_) (fun i i1 i2 => ?_), ?_, ?_⟩
          · have hx := x_M_job (d + 199) s' w' _ I hn e
            simp (disch := omega) only [n_M_job, e_M_job_0, e_M_job_1, e_M_job_2, e_M_job_3, e_M_job_4, e_M_job_5, e_M_job_6, s_M_in, lit, nad, nml, bd_s, ct_s, ct_n, a11, a01, aB2, bitA, nlt, nle, neq, dlT, dlF, deT, deF, dqT, dqF, nN, inb, nsb, ndv, nrm, if_true, if_false, ite_true, ite_false, true_and, and_true, and_self, and_false, false_and, or_true, true_or, or_false, false_or, or_self, reduceIte, eq_self, Nat.reduceAdd, Nat.reduceMul, Nat.reduceSub, Nat.reduceDiv, Nat.reduceMod, Nat.zero_add, Nat.mul_zero, not_true_eq_false, not_false_eq_true, up_T, up_F, wr_T, wr_F, ngE, ngE', ngL, ngL', ngQ, ngQ', hn, hx]
          · rcases (show c = 0 ∨ c = 1 by have : c < 2 := hc; omega) with q | q <;> subst q
            · show mm_up _ 47 0 8 _ 47 0 (332 + 2 * A 0 0 8 + 0) = _
              simp (disch := omega) only [up_T, up_F]
              rfl
            · show mm_up _ 47 0 8 _ 47 0 (332 + 2 * A 0 0 8 + 1) = _
              simp (disch := omega) only [up_T, up_F]
              rfl
          · have i3 : i ≠ 8 := i1
            have i4 : ¬ (332 + 2 * A 0 0 8 ≤ i ∧ i < 332 + 2 * A 0 0 8 + 2) := i2
            simp (disch := omega) only [up_F]
          · exact fr_up (fr_up (fr_up (fr_rf _ _) (by unfold dM'; omega)) (by unfold dM'; omega)) (by unfold dM'; omega)
          · exact k12_of (by funext i j'; simp (disch := omega) only [up_F])
        · simp only [if_neg e]
          refine ⟨I, ?_, hR, fr_rf _ _, k12_rf _⟩
          simp (disch := omega) only [n_M_job, e_M_job_0, e_M_job_1, e_M_job_2, e_M_job_3, e_M_job_4, e_M_job_5, e_M_job_6, s_M_in, lit, nad, nml, bd_s, ct_s, ct_n, a11, a01, aB2, bitA, nlt, nle, neq, dlT, dlF, deT, deF, dqT, dqF, nN, inb, nsb, ndv, nrm, if_true, if_false, ite_true, ite_false, true_and, and_true, and_self, and_false, false_and, or_true, true_or, or_false, false_or, or_self, reduceIte, eq_self, Nat.reduceAdd, Nat.reduceMul, Nat.reduceSub, Nat.reduceDiv, Nat.reduceMod, Nat.zero_add, Nat.mul_zero, not_true_eq_false, not_false_eq_true, up_T, up_F, wr_T, wr_F, ngE, ngE', ngL, ngL', ngQ, ngQ', hn]
      · by_cases e : A 0 0 8 < 4
        · simp only [if_pos e]
          refine ⟨Good_add g (by decide) e ?_, by rw [rowA_0 (by decide)]; exact h, rowA_0 (by decide)⟩
          unfold rowG ro3
          refine ⟨fun q => by omega, fun q => by omega, fun q => by omega, fun q => by omega, fun q => by omega, fun q => by omega, fun _ => ?_⟩
          simp
          omega
        · simp only [if_neg e]
          exact ⟨g, h, trivial⟩
    · refine call_id (fun _ => -nI 1000000001) (fun A I hC _ g _ => ?_) (fun A I hR g _ _ => ?_)
      · simp (disch := omega) only [n_H_job, e_H_job_0, e_H_job_1, e_H_job_2, e_H_job_3, e_H_job_4, e_H_job_5, e_H_job_6, s_H_within, lit, nad, nml, bd_s, ct_s, ct_n, a11, a01, aB2, bitA, nlt, nle, neq, dlT, dlF, deT, deF, dqT, dqF, nN, inb, nsb, ndv, nrm, if_true, if_false, ite_true, ite_false, true_and, and_true, and_self, and_false, false_and, or_true, true_or, or_false, false_or, or_self, reduceIte, eq_self, Nat.reduceAdd, Nat.reduceMul, Nat.reduceSub, Nat.reduceDiv, Nat.reduceMod, Nat.zero_add, Nat.mul_zero, not_true_eq_false, not_false_eq_true, up_T, up_F, wr_T, wr_F, ngE, ngE', ngL, ngL', ngQ, ngQ', h1]
      · simp (disch := omega) only [n_M_job, e_M_job_0, e_M_job_1, e_M_job_2, e_M_job_3, e_M_job_4, e_M_job_5, e_M_job_6, s_M_in, lit, nad, nml, bd_s, ct_s, ct_n, a11, a01, aB2, bitA, nlt, nle, neq, dlT, dlF, deT, deF, dqT, dqF, nN, inb, nsb, ndv, nrm, if_true, if_false, ite_true, ite_false, true_and, and_true, and_self, and_false, false_and, or_true, true_or, or_false, false_or, or_self, reduceIte, eq_self, Nat.reduceAdd, Nat.reduceMul, Nat.reduceSub, Nat.reduceDiv, Nat.reduceMod, Nat.zero_add, Nat.mul_zero, not_true_eq_false, not_false_eq_true, up_T, up_F, wr_T, wr_F, ngE, ngE', ngL, ngL', ngQ, ngQ', h1]
  · refine call_id (fun _ => -nI 1000000001) (fun A I hC _ g _ => ?_) (fun A I hR g _ _ => ?_)
    · simp (disch := omega) only [n_H_job, e_H_job_0, e_H_job_1, e_H_job_2, e_H_job_3, e_H_job_4, e_H_job_5, e_H_job_6, s_H_within, lit, nad, nml, bd_s, ct_s, ct_n, a11, a01, aB2, bitA, nlt, nle, neq, dlT, dlF, deT, deF, dqT, dqF, nN, inb, nsb, ndv, nrm, if_true, if_false, ite_true, ite_false, true_and, and_true, and_self, and_false, false_and, or_true, true_or, or_false, false_or, or_self, reduceIte, eq_self, Nat.reduceAdd, Nat.reduceMul, Nat.reduceSub, Nat.reduceDiv, Nat.reduceMod, Nat.zero_add, Nat.mul_zero, not_true_eq_false, not_false_eq_true, up_T, up_F, wr_T, wr_F, ngE, ngE', ngL, ngL', ngQ, ngQ', h0]
    · simp (disch := omega) only [n_M_job, e_M_job_0, e_M_job_1, e_M_job_2, e_M_job_3, e_M_job_4, e_M_job_5, e_M_job_6, s_M_in, lit, nad, nml, bd_s, ct_s, ct_n, a11, a01, aB2, bitA, nlt, nle, neq, dlT, dlF, deT, deF, dqT, dqF, nN, inb, nsb, ndv, nrm, if_true, if_false, ite_true, ite_false, true_and, and_true, and_self, and_false, false_and, or_true, true_or, or_false, false_or, or_self, reduceIte, eq_self, Nat.reduceAdd, Nat.reduceMul, Nat.reduceSub, Nat.reduceDiv, Nat.reduceMod, Nat.zero_add, Nat.mul_zero, not_true_eq_false, not_false_eq_true, up_T, up_F, wr_T, wr_F, ngE, ngE', ngL, ngL', ngQ, ngQ', h0]
theorem x_M_donor (d a b m : Nat) (I : mm_I) (hn : I 47 0 5 = nI m) (hm : m < 12) : Rn d q_M_donor 7 [some (.inr (12, 0)), some (.inl (nI a)), some (.inl (nI b))] [] I = some (some (.inl (nI (m + 1))), (sh0, mm_up (mm_up (mm_up I 47 0 (278 + 2 * m) (nI a)) 47 0 (278 + 2 * m + 1) (nI b)) 47 0 5 (nI (m + 1)))) := by
  simp (disch := omega) only [e_M_donor_7, ep_M_donor_7_0, ep_M_donor_7_1, ep_M_donor_7_2, eb_M_donor_7, lit, nad, nml, bd_s, ct_s, ct_n, a11, a01, aB2, bitA, nlt, nle, neq, dlT, dlF, deT, deF, dqT, dqF, nN, inb, nsb, ndv, nrm, if_true, if_false, ite_true, ite_false, true_and, and_true, and_self, and_false, false_and, or_true, true_or, or_false, false_or, or_self, reduceIte, eq_self, Nat.reduceAdd, Nat.reduceMul, Nat.reduceSub, Nat.reduceDiv, Nat.reduceMod, Nat.zero_add, Nat.mul_zero, not_true_eq_false, not_false_eq_true, up_T, up_F, wr_T, wr_F, ngE, ngE', ngL, ngL', ngQ, ngQ', hn, Nat.add_sub_cancel]
theorem Ok_donor (d : Nat) (y w : Int32) : Ok (d + 200) q_H_donor q_M_donor [.inl y, .inl w] := by
  by_cases h0 : nI 0 ≤ y ∧ y ≤ nI 200
  · obtain ⟨y', y1, y2, y3⟩ := wof h0 (by decide) (by decide)
    subst y3
    by_cases h1 : nI 1 ≤ w ∧ w ≤ nI 99999
    · obtain ⟨w', w1, w2, w3⟩ := wof h1 (by decide) (by decide)
      subst w3
      refine call_hill (fun A => if y' < A 0 0 11 then -nI 1000000001 else if A 0 0 5 < 12 then nI (A 0 0 5 + 1) else -nI 1000000003) (fun A => if y' < A 0 0 11 then A else if A 0 0 5 < 12 then rowA A 3 y' w' 0 else A) (fun A I hC F g _ => ?_) (fun A I hR g _ _ => ?_) (fun A g h => ?_)
      · have ha := s_add0 (d + 195) 3 y' w' 0 A I hC F g (by decide)
        have hb : A 0 0 5 ≤ 12 := g.2.1 3 (by decide)
        have hm : I 7 3 3 = nI (A 0 0 5) := c0_mn hC (t := 3) (by decide)
        have hf : I 7 3 1 = nI 12 := (F 3 (by decide)).1
        have hf2 := s_Rows_isFull (d + 198) 3 (A 0 0 5) 12 I hf hm (by omega) (by decide)
        have hy : I 3 0 4 = nI (A 0 0 11) := hC.1.2.2.2.2
        have hyb : A 0 0 11 ≤ 300 := g.1.2.2.2.2
        by_cases ey : y' < A 0 0 11
        · simp only [if_pos ey]
          refine ⟨I, ?_, hC, F, fr_rf _ _⟩
          simp (disch := omega) only [n_H_donor, e_H_donor_0, e_H_donor_1, e_H_donor_2, e_H_donor_3, e_H_donor_4, e_H_donor_5, e_H_donor_6, e_H_donor_7, e_H_donor_8, e_H_donor_9, s_H_within, lit, nad, nml, bd_s, ct_s, ct_n, a11, a01, aB2, bitA, nlt, nle, neq, dlT, dlF, deT, deF, dqT, dqF, nN, inb, nsb, ndv, nrm, if_true, if_false, ite_true, ite_false, true_and, and_true, and_self, and_false, false_and, or_true, true_or, or_false, false_or, or_self, reduceIte, eq_self, Nat.reduceAdd, Nat.reduceMul, Nat.reduceSub, Nat.reduceDiv, Nat.reduceMod, Nat.zero_add, Nat.mul_zero, not_true_eq_false, not_false_eq_true, up_T, up_F, wr_T, wr_F, ngE, ngE', ngL, ngL', ngQ, ngQ', hy]
        simp only [if_neg ey]
        by_cases e : A 0 0 5 < 12
        · rw [if_pos (show A 0 0 (tH 3) < tM 3 from e)] at ha
          rw [if_pos e] at hf2
          simp only [if_pos e]
          refine ⟨_, ?_, RepC_add0 hC (t := 3) (by decide), Fix_add F, fr_add (by decide)⟩
          simp (disch := omega) only [n_H_donor, e_H_donor_0, e_H_donor_1, e_H_donor_2, e_H_donor_3, e_H_donor_4, e_H_donor_5, e_H_donor_6, e_H_donor_7, e_H_donor_8, e_H_donor_9, s_H_within, lit, nad, nml, bd_s, ct_s, ct_n, a11, a01, aB2, bitA, nlt, nle, neq, dlT, dlF, deT, deF, dqT, dqF, nN, inb, nsb, ndv, nrm, if_true, if_false, ite_true, ite_false, true_and, and_true, and_self, and_false, false_and, or_true, true_or, or_false, false_or, or_self, reduceIte, eq_self, Nat.reduceAdd, Nat.reduceMul, Nat.reduceSub, Nat.reduceDiv, Nat.reduceMod, Nat.zero_add, Nat.mul_zero, not_true_eq_false, not_false_eq_true, up_T, up_F, wr_T, wr_F, ngE, ngE', ngL, ngL', ngQ, ngQ', ha, hf2, hy]
          try rfl
        · rw [if_neg (show ¬ A 0 0 (tH 3) < tM 3 from e)] at ha
          rw [if_neg e] at hf2
          simp only [if_neg e]
          refine ⟨I, ?_, hC, F, fr_rf _ _⟩
          simp (disch := omega) only [n_H_donor, e_H_donor_0, e_H_donor_1, e_H_donor_2, e_H_donor_3, e_H_donor_4, e_H_donor_5, e_H_donor_6, e_H_donor_7, e_H_donor_8, e_H_donor_9, s_H_within, lit, nad, nml, bd_s, ct_s, ct_n, a11, a01, aB2, bitA, nlt, nle, neq, dlT, dlF, deT, deF, dqT, dqF, nN, inb, nsb, ndv, nrm, if_true, if_false, ite_true, ite_false, true_and, and_true, and_self, and_false, false_and, or_true, true_or, or_false, false_or, or_self, reduceIte, eq_self, Nat.reduceAdd, Nat.reduceMul, Nat.reduceSub, Nat.reduceDiv, Nat.reduceMod, Nat.zero_add, Nat.mul_zero, not_true_eq_false, not_false_eq_true, up_T, up_F, wr_T, wr_F, ngE, ngE', ngL, ngL', ngQ, ngQ', ha, hf2, hy]
      · have hn : I 47 0 5 = nI (A 0 0 5) := hR.1 5 (by decide)
        have hb : A 0 0 5 ≤ 12 := g.2.1 3 (by decide)
        have hy : I 47 0 11 = nI (A 0 0 11) := hR.1 11 (by decide)
        have hyb : A 0 0 11 ≤ 300 := g.1.2.2.2.2
        by_cases ey : y' < A 0 0 11
        · simp only [if_pos ey]
          refine ⟨I, ?_, hR, fr_rf _ _, k12_rf _⟩
          simp (disch := omega) only [n_M_donor, e_M_donor_0, e_M_donor_1, e_M_donor_2, e_M_donor_3, e_M_donor_4, e_M_donor_5, e_M_donor_6, s_M_in, lit, nad, nml, bd_s, ct_s, ct_n, a11, a01, aB2, bitA, nlt, nle, neq, dlT, dlF, deT, deF, dqT, dqF, nN, inb, nsb, ndv, nrm, if_true, if_false, ite_true, ite_false, true_and, and_true, and_self, and_false, false_and, or_true, true_or, or_false, false_or, or_self, reduceIte, eq_self, Nat.reduceAdd, Nat.reduceMul, Nat.reduceSub, Nat.reduceDiv, Nat.reduceMod, Nat.zero_add, Nat.mul_zero, not_true_eq_false, not_false_eq_true, up_T, up_F, wr_T, wr_F, ngE, ngE', ngL, ngL', ngQ, ngQ', hy]
        simp only [if_neg ey]
        by_cases e : A 0 0 5 < 12
        · simp only [if_pos e]
          refine ⟨mm_up (mm_up (mm_up I 47 0 (278 + 2 * A 0 0 5) (nI y')) 47 0 (278 + 2 * A 0 0 5 + 1) (nI w')) 47 0 5 (nI (A 0 0 5 + 1)), ?_, RepR_add (t := 3) hR g (by decide) e (up_s _ _ _ _ _) (fun c hc => ?_) (fun i i1 i2 => ?_), ?_, ?_⟩
          · have hx := x_M_donor (d + 199) y' w' _ I hn e
            simp (disch := omega) only [n_M_donor, e_M_donor_0, e_M_donor_1, e_M_donor_2, e_M_donor_3, e_M_donor_4, e_M_donor_5, e_M_donor_6, s_M_in, lit, nad, nml, bd_s, ct_s, ct_n, a11, a01, aB2, bitA, nlt, nle, neq, dlT, dlF, deT, deF, dqT, dqF, nN, inb, nsb, ndv, nrm, if_true, if_false, ite_true, ite_false, true_and, and_true, and_self, and_false, false_and, or_true, true_or, or_false, false_or, or_self, reduceIte, eq_self, Nat.reduceAdd, Nat.reduceMul, Nat.reduceSub, Nat.reduceDiv, Nat.reduceMod, Nat.zero_add, Nat.mul_zero, not_true_eq_false, not_false_eq_true, up_T, up_F, wr_T, wr_F, ngE, ngE', ngL, ngL', ngQ, ngQ', hn, hy, hx]
          · rcases (show c = 0 ∨ c = 1 by have : c < 2 := hc; omega) with q | q <;> subst q
            · show mm_up _ 47 0 5 _ 47 0 (278 + 2 * A 0 0 5 + 0) = _
              simp (disch := omega) only [up_T, up_F]
              rfl
            · show mm_up _ 47 0 5 _ 47 0 (278 + 2 * A 0 0 5 + 1) = _
              simp (disch := omega) only [up_T, up_F]
              rfl
          · have i3 : i ≠ 5 := i1
            have i4 : ¬ (278 + 2 * A 0 0 5 ≤ i ∧ i < 278 + 2 * A 0 0 5 + 2) := i2
            simp (disch := omega) only [up_F]
          · exact fr_up (fr_up (fr_up (fr_rf _ _) (by unfold dM'; omega)) (by unfold dM'; omega)) (by unfold dM'; omega)
          · exact k12_of (by funext i j'; simp (disch := omega) only [up_F])
        · simp only [if_neg e]
          refine ⟨I, ?_, hR, fr_rf _ _, k12_rf _⟩
          simp (disch := omega) only [n_M_donor, e_M_donor_0, e_M_donor_1, e_M_donor_2, e_M_donor_3, e_M_donor_4, e_M_donor_5, e_M_donor_6, s_M_in, lit, nad, nml, bd_s, ct_s, ct_n, a11, a01, aB2, bitA, nlt, nle, neq, dlT, dlF, deT, deF, dqT, dqF, nN, inb, nsb, ndv, nrm, if_true, if_false, ite_true, ite_false, true_and, and_true, and_self, and_false, false_and, or_true, true_or, or_false, false_or, or_self, reduceIte, eq_self, Nat.reduceAdd, Nat.reduceMul, Nat.reduceSub, Nat.reduceDiv, Nat.reduceMod, Nat.zero_add, Nat.mul_zero, not_true_eq_false, not_false_eq_true, up_T, up_F, wr_T, wr_F, ngE, ngE', ngL, ngL', ngQ, ngQ', hn, hy]
      · by_cases ey : y' < A 0 0 11
        · simp only [if_pos ey]
          exact ⟨g, h, trivial⟩
        simp only [if_neg ey]
        by_cases e : A 0 0 5 < 12
        · simp only [if_pos e]
          refine ⟨Good_add g (by decide) e ?_, by rw [rowA_0 (by decide)]; exact h, rowA_0 (by decide)⟩
          unfold rowG ro3
          refine ⟨fun q => by omega, fun q => by omega, fun q => by omega, fun _ => ?_, fun q => by omega, fun q => by omega, fun q => by omega⟩
          simp
          omega
        · simp only [if_neg e]
          exact ⟨g, h, trivial⟩
    · refine call_id (fun _ => -nI 1000000001) (fun A I hC _ g _ => ?_) (fun A I hR g _ _ => ?_)
      · have hy : I 3 0 4 = nI (A 0 0 11) := hC.1.2.2.2.2
        have hyb : A 0 0 11 ≤ 300 := g.1.2.2.2.2
        by_cases ey : y' < A 0 0 11 <;> simp (disch := omega) only [n_H_donor, e_H_donor_0, e_H_donor_1, e_H_donor_2, e_H_donor_3, e_H_donor_4, e_H_donor_5, e_H_donor_6, e_H_donor_7, e_H_donor_8, e_H_donor_9, s_H_within, lit, nad, nml, bd_s, ct_s, ct_n, a11, a01, aB2, bitA, nlt, nle, neq, dlT, dlF, deT, deF, dqT, dqF, nN, inb, nsb, ndv, nrm, if_true, if_false, ite_true, ite_false, true_and, and_true, and_self, and_false, false_and, or_true, true_or, or_false, false_or, or_self, reduceIte, eq_self, Nat.reduceAdd, Nat.reduceMul, Nat.reduceSub, Nat.reduceDiv, Nat.reduceMod, Nat.zero_add, Nat.mul_zero, not_true_eq_false, not_false_eq_true, up_T, up_F, wr_T, wr_F, ngE, ngE', ngL, ngL', ngQ, ngQ', hy, h1]
      · have hy : I 47 0 11 = nI (A 0 0 11) := hR.1 11 (by decide)
        have hyb : A 0 0 11 ≤ 300 := g.1.2.2.2.2
        by_cases ey : y' < A 0 0 11 <;> simp (disch := omega) only [n_M_donor, e_M_donor_0, e_M_donor_1, e_M_donor_2, e_M_donor_3, e_M_donor_4, e_M_donor_5, e_M_donor_6, s_M_in, lit, nad, nml, bd_s, ct_s, ct_n, a11, a01, aB2, bitA, nlt, nle, neq, dlT, dlF, deT, deF, dqT, dqF, nN, inb, nsb, ndv, nrm, if_true, if_false, ite_true, ite_false, true_and, and_true, and_self, and_false, false_and, or_true, true_or, or_false, false_or, or_self, reduceIte, eq_self, Nat.reduceAdd, Nat.reduceMul, Nat.reduceSub, Nat.reduceDiv, Nat.reduceMod, Nat.zero_add, Nat.mul_zero, not_true_eq_false, not_false_eq_true, up_T, up_F, wr_T, wr_F, ngE, ngE', ngL, ngL', ngQ, ngQ', hy, h1]
  · refine call_id (fun _ => -nI 1000000001) (fun A I hC _ g _ => ?_) (fun A I hR g _ _ => ?_)
    · have hy : I 3 0 4 = nI (A 0 0 11) := hC.1.2.2.2.2
      have hz : ¬ (nI (A 0 0 11) ≤ y ∧ y ≤ nI 200) := fun z => h0 ⟨Int32.le_trans (by rw [nle (by decide) (by have := g.1.2.2.2.2; omega)]; omega) z.1, z.2⟩
      simp (disch := omega) only [n_H_donor, e_H_donor_0, e_H_donor_1, e_H_donor_2, e_H_donor_3, e_H_donor_4, e_H_donor_5, e_H_donor_6, e_H_donor_7, e_H_donor_8, e_H_donor_9, s_H_within, lit, nad, nml, bd_s, ct_s, ct_n, a11, a01, aB2, bitA, nlt, nle, neq, dlT, dlF, deT, deF, dqT, dqF, nN, inb, nsb, ndv, nrm, if_true, if_false, ite_true, ite_false, true_and, and_true, and_self, and_false, false_and, or_true, true_or, or_false, false_or, or_self, reduceIte, eq_self, Nat.reduceAdd, Nat.reduceMul, Nat.reduceSub, Nat.reduceDiv, Nat.reduceMod, Nat.zero_add, Nat.mul_zero, not_true_eq_false, not_false_eq_true, up_T, up_F, wr_T, wr_F, ngE, ngE', ngL, ngL', ngQ, ngQ', hy, hz]
    · have hy : I 47 0 11 = nI (A 0 0 11) := hR.1 11 (by decide)
      have hz : ¬ (nI (A 0 0 11) ≤ y ∧ y ≤ nI 200) := fun z => h0 ⟨Int32.le_trans (by rw [nle (by decide) (by have := g.1.2.2.2.2; omega)]; omega) z.1, z.2⟩
      simp (disch := omega) only [n_M_donor, e_M_donor_0, e_M_donor_1, e_M_donor_2, e_M_donor_3, e_M_donor_4, e_M_donor_5, e_M_donor_6, s_M_in, lit, nad, nml, bd_s, ct_s, ct_n, a11, a01, aB2, bitA, nlt, nle, neq, dlT, dlF, deT, deF, dqT, dqF, nN, inb, nsb, ndv, nrm, if_true, if_false, ite_true, ite_false, true_and, and_true, and_self, and_false, false_and, or_true, true_or, or_false, false_or, or_self, reduceIte, eq_self, Nat.reduceAdd, Nat.reduceMul, Nat.reduceSub, Nat.reduceDiv, Nat.reduceMod, Nat.zero_add, Nat.mul_zero, not_true_eq_false, not_false_eq_true, up_T, up_F, wr_T, wr_F, ngE, ngE', ngL, ngL', ngQ, ngQ', hy, hz]
