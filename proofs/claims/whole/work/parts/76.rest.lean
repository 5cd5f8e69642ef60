/-! The parts of the rest, by their cells. -/
def kstC (k i j : Nat) : Prop := (k = 12 ∧ i = 0 ∧ j = 8) ∨ k = 53 ∨ k = 210
def tapC (k i j : Nat) : Prop := (k = 5 ∧ i = 0 ∧ j = 1) ∨ (k = 12 ∧ i = 0 ∧ j = 11) ∨ k = 29 ∨ k = 52
def cntC (k _i _j : Nat) : Prop := k = 1 ∨ k = 64 ∨ k = 65 ∨ k = 66 ∨ k = 25
def htsC (k i _j : Nat) : Prop := k = 4 ∨ k = 68 ∨ k = 69 ∨ k = 70 ∨ (k = 8 ∧ 49 ≤ i)
def numC (k i j : Nat) : Prop := (k = 11 ∧ i = 0 ∧ j = 16) ∨ (k = 12 ∧ i = 0 ∧ j = 47) ∨ k = 46 ∨ k = 71
theorem Kst_eq {I I' : mm_I} (h : Kst I) (e : ∀ k i j, kstC k i j → I' k i j = I k i j) : Kst I' := by
  refine ⟨by rw [e _ _ _ (by unfold kstC; omega)]; exact h.1, fun k hk => by rw [e _ _ _ (by unfold kstC; omega)]; exact h.2.1 k hk, fun k hk => by rw [e _ _ _ (by unfold kstC; omega)]; exact h.2.2 k hk⟩
theorem Tap_eq {I I' : mm_I} (h : Tap I) (e : ∀ k i j, tapC k i j → I' k i j = I k i j) : Tap I' := by
  obtain ⟨n, T, h1, h2, h3, h4⟩ := h
  refine ⟨n, T, h1, by rw [e _ _ _ (by unfold tapC; omega)]; exact h2, by rw [e _ _ _ (by unfold tapC; omega)]; exact h3, fun k hk => ?_⟩
  rw [e _ _ _ (by unfold tapC; omega), e _ _ _ (by unfold tapC; omega)]
  exact h4 k hk
theorem Cnt_eq {I I' : mm_I} (h : Cnt I) (e : ∀ k i j, cntC k i j → I' k i j = I k i j) : Cnt I' := by
  intro c hc
  obtain ⟨s, z, h1, h2, h3, h4, h5, h6, h7⟩ := h c hc
  refine ⟨s, z, h1, h2, by rw [e _ _ _ (by unfold cntC; omega)]; exact h3, by rw [e _ _ _ (by unfold cntC; omega)]; exact h4, by rw [e _ _ _ (by unfold cntC; omega)]; exact h5, by rw [e _ _ _ (by unfold cntC; omega)]; exact h6, fun k hk => ?_⟩
  rw [e _ _ _ (by unfold cntC; omega), e _ _ _ (by unfold cntC; omega)]
  exact h7 k hk
theorem Hts_eq {I I' : mm_I} (h : Hts I) (e : ∀ k i j, htsC k i j → I' k i j = I k i j) : Hts I' := by
  intro c hc
  obtain ⟨t, t1, t2, t3, t4, t5⟩ := h c hc
  refine ⟨t, t1, by rw [e _ _ _ (by unfold htsC; omega)]; exact t2, by rw [e _ _ _ (by unfold htsC; omega)]; exact t3, fun q => ?_, fun q => ?_⟩
  · obtain ⟨f, f1, f2, f3, f4, f5, f6⟩ := t4 q
    refine ⟨f, StC_c f1 (by funext j; exact e _ _ _ (by unfold htsC; omega)), f2, ?_⟩
    rw [e _ _ _ (by unfold htsC; omega), e _ _ _ (by unfold htsC; omega), e _ _ _ (by unfold htsC; omega), e _ _ _ (by unfold htsC; omega)]
    exact ⟨f3, f4, f5, f6⟩
  · rw [e _ _ _ (by unfold htsC; omega), e _ _ _ (by unfold htsC; omega)]
    exact t5 q
theorem Num_eq {I I' : mm_I} (h : Num I) (e : ∀ k i j, numC k i j → I' k i j = I k i j) : Num I' := by
  obtain ⟨n, h1, h2, h3, h4⟩ := h
  refine ⟨n, h1, by rw [e _ _ _ (by unfold numC; omega)]; exact h2, by rw [e _ _ _ (by unfold numC; omega)]; exact h3, fun k hk => ?_⟩
  rw [e _ _ _ (by unfold numC; omega), e _ _ _ (by unfold numC; omega)]
  exact h4 k hk
def rstC (k i j : Nat) : Prop := kstC k i j ∨ tapC k i j ∨ cntC k i j ∨ htsC k i j ∨ numC k i j
theorem Rst_eq {I I' : mm_I} (h : Rst I) (F : Fix I') (e : ∀ k i j, rstC k i j → I' k i j = I k i j) : Rst I' :=
  ⟨F, Kst_eq h.2.1 (fun k i j q => e k i j (Or.inl q)), Tap_eq h.2.2.1 (fun k i j q => e k i j (Or.inr (Or.inl q))), Cnt_eq h.2.2.2.1 (fun k i j q => e k i j (Or.inr (Or.inr (Or.inl q)))), Hts_eq h.2.2.2.2.1 (fun k i j q => e k i j (Or.inr (Or.inr (Or.inr (Or.inl q))))), Num_eq h.2.2.2.2.2 (fun k i j q => e k i j (Or.inr (Or.inr (Or.inr (Or.inr q)))))⟩
/-- nothing of the hills has changed -/
theorem Inv_A {I I' : mm_I} (h : ∃ A, RepC 0 A I ∧ RepR 0 A I ∧ Good A ∧ A 0 0 11 ≤ 200 ∧ Img A I) (e : ∀ k i j, (hc 0 k i ∨ hc 1 k i ∨ k = 9 ∨ k = 38 ∨ k = 47 ∨ (k = 11 ∧ i = 0 ∧ j = 3) ∨ (k = 12 ∧ i = 0 ∧ j = 3)) → I' k i j = I k i j) : ∃ A, RepC 0 A I' ∧ RepR 0 A I' ∧ Good A ∧ A 0 0 11 ≤ 200 ∧ Img A I' := by
  obtain ⟨A, h1, h2, h3, h4, h5⟩ := h
  have e47 : ∀ a, I' 47 a = I 47 a := fun a => by funext j; exact e _ _ _ (by omega)
  refine ⟨A, RepC_fr h1 h3 (fun k i q => ?_), RepR_o h2 (e47 0), h3, h4, Img_fr h5 (Nat.le_refl _) (e _ _ _ (by omega)) (e _ _ _ (by omega)) (fun k i q => ?_) (e47 1)⟩
  · funext j
    refine e k i j ?_
    rcases q with q | q | q
    · exact Or.inl q
    · exact Or.inr (Or.inr (Or.inl q))
    · exact Or.inr (Or.inr (Or.inr (Or.inl q)))
  · funext j
    refine e k i j ?_
    rcases q with q | q | q
    · exact Or.inr (Or.inl q)
    · exact Or.inr (Or.inr (Or.inl q))
    · exact Or.inr (Or.inr (Or.inr (Or.inl q)))
theorem Ok_keep (d : Nat) : Ok (d + 200) q_H_keep q_M_keep [] := by
  rintro I ⟨hr, A, h1, h2, h3, h4, h5⟩
  obtain ⟨I1, b1, b2, b3, b4⟩ := s_Hills_become (d + 197) 1 0 A I h1 hr.1 h3 (by decide) (by decide) (by decide)
  have hC1 : RepC 0 A I1 := RepC_fr h1 h3 (fun k i q => b4 k i (hc_dis (by decide) q))
  have y1 : I1 3 0 4 = nI (A 0 0 11) := hC1.1.2.2.2.2
  have hR1 : RepR 0 A (mm_up I1 11 0 3 (nI 1)) := RepR_o h2 (by funext j; rw [up_F (by omega), b4 47 0 (by unfold hc; omega)])
  have y2 : ∀ j, j < 1941 → (wr (mm_up I1 11 0 3 (nI 1)) 47 1 0 1941 (fun j => (mm_up I1 11 0 3 (nI 1)) 47 0 j)) 47 0 j = (mm_up I1 11 0 3 (nI 1)) 47 0 j := fun j _ => wr_F (by omega)
  have cp := s_M_copyAll (d + 198) 0 1 (mm_up I1 11 0 3 (nI 1)) (by decide)
  have y3 : I1 47 0 11 = nI (A 0 0 11) := by rw [b4 47 0 (by unfold hc; omega)]; exact h2.1 11 (by decide)
  refine ⟨nI (A 0 0 11), mm_up I1 11 0 3 (nI 1), mm_up (wr (mm_up I1 11 0 3 (nI 1)) 47 1 0 1941 (fun j => (mm_up I1 11 0 3 (nI 1)) 47 0 j)) 12 0 3 (nI 1), ?_, ?_, Rst_eq hr (Fix_up (Fix_wr (Fix_up b3 (by omega)) (by omega)) (by omega)) (fun k i j q => ?_), A, ?_, ?_, h3, h4, Or.inr ⟨?_, ?_, A, ?_, ?_, h3, h4, Nat.le_refl _⟩⟩
  · simp (disch := omega) only [n_H_keep, e_H_keep_0, e_H_keep_1, lit, nad, nml, bd_s, ct_s, ct_n, a11, a01, aB2, bitA, nlt, nle, neq, dlT, dlF, deT, deF, dqT, dqF, nN, inb, nsb, ndv, nrm, if_true, if_false, ite_true, ite_false, true_and, and_true, and_self, and_false, false_and, or_true, true_or, or_false, false_or, or_self, ↓reduceIte, eq_self, Nat.reduceAdd, Nat.reduceMul, Nat.reduceSub, Nat.reduceDiv, Nat.reduceMod, Nat.zero_add, Nat.mul_zero, not_true_eq_false, not_false_eq_true, up_T, up_F, wr_T, wr_F, ngE, ngE', ngL, ngL', ngQ, ngQ', b1, y1]
  · simp (disch := omega) only [n_M_keep, e_M_keep_0, e_M_keep_1, lit, nad, nml, bd_s, ct_s, ct_n, a11, a01, aB2, bitA, nlt, nle, neq, dlT, dlF, deT, deF, dqT, dqF, nN, inb, nsb, ndv, nrm, if_true, if_false, ite_true, ite_false, true_and, and_true, and_self, and_false, false_and, or_true, true_or, or_false, false_or, or_self, ↓reduceIte, eq_self, Nat.reduceAdd, Nat.reduceMul, Nat.reduceSub, Nat.reduceDiv, Nat.reduceMod, Nat.zero_add, Nat.mul_zero, not_true_eq_false, not_false_eq_true, up_T, up_F, wr_T, wr_F, ngE, ngE', ngL, ngL', ngQ, ngQ', cp, y3]
  · unfold rstC kstC tapC cntC htsC numC at q
    rw [up_F (by omega), wr_F (by omega), up_F (by omega), b4 k i (by unfold hc; omega)]
  · exact RepC_fr hC1 h3 (fun k i q => by funext j; unfold hc at q; rw [up_F (by omega), wr_F (by omega), up_F (by omega)])
  · exact RepR_o hR1 (by funext j; rw [up_F (by omega), wr_F (by omega)])
  · rw [up_F (by omega), wr_F (by omega), up_s]
  · rw [up_s]
  · exact RepC_fr b2 h3 (fun k i q => by funext j; unfold hc at q; rw [up_F (by omega), wr_F (by omega), up_F (by omega)])
  · exact RepR_cp hR1 h3 (fun j hj => by rw [up_F (by omega), wr_T (by omega), Nat.sub_zero])
theorem Ok_back (d : Nat) : Ok (d + 200) q_H_back q_M_back [] := by
  rintro I ⟨hr, A, h1, h2, h3, h4, h5⟩
  rcases h5 with ⟨h5, h6⟩ | ⟨h5, h6, B, k1, k2, k3, k4, k5⟩
  · refine ⟨-nI 1000000002, I, I, ?_, ?_, hr, A, h1, h2, h3, h4, Or.inl ⟨h5, h6⟩⟩
    · simp (disch := omega) only [n_H_back, e_H_back_0, e_H_back_1, e_H_back_2, e_H_back_3, lit, nad, nml, bd_s, ct_s, ct_n, a11, a01, aB2, bitA, nlt, nle, neq, dlT, dlF, deT, deF, dqT, dqF, nN, inb, nsb, ndv, nrm, if_true, if_false, ite_true, ite_false, true_and, and_true, and_self, and_false, false_and, or_true, true_or, or_false, false_or, or_self, ↓reduceIte, eq_self, Nat.reduceAdd, Nat.reduceMul, Nat.reduceSub, Nat.reduceDiv, Nat.reduceMod, Nat.zero_add, Nat.mul_zero, not_true_eq_false, not_false_eq_true, up_T, up_F, wr_T, wr_F, ngE, ngE', ngL, ngL', ngQ, ngQ', h5]
    · simp (disch := omega) only [n_M_back, e_M_back_0, e_M_back_1, e_M_back_2, e_M_back_3, lit, nad, nml, bd_s, ct_s, ct_n, a11, a01, aB2, bitA, nlt, nle, neq, dlT, dlF, deT, deF, dqT, dqF, nN, inb, nsb, ndv, nrm, if_true, if_false, ite_true, ite_false, true_and, and_true, and_self, and_false, false_and, or_true, true_or, or_false, false_or, or_self, ↓reduceIte, eq_self, Nat.reduceAdd, Nat.reduceMul, Nat.reduceSub, Nat.reduceDiv, Nat.reduceMod, Nat.zero_add, Nat.mul_zero, not_true_eq_false, not_false_eq_true, up_T, up_F, wr_T, wr_F, ngE, ngE', ngL, ngL', ngQ, ngQ', h6]
  · obtain ⟨I1, b1, b2, b3, b4⟩ := s_Hills_become (d + 197) 0 1 B I k1 hr.1 k3 (by decide) (by decide) (by decide)
    have y1 : I1 3 0 4 = nI (B 0 0 11) := b2.1.2.2.2.2
    have hR1 : RepR 1 B I1 := RepR_o k2 (by funext j; rw [b4 47 1 (by unfold hc; omega)])
    have cp := s_M_copyAll (d + 198) 1 0 I1 (by decide)
    have hR2 : RepR 0 B (wr I1 47 0 0 1941 (fun j => I1 47 1 j)) := RepR_cp hR1 k3 (fun j hj => by rw [wr_T (by omega), Nat.sub_zero])
    have y3 := hR2.1 11 (by decide)
    have e6 : I1 12 0 3 = nI 1 := by rw [b4 12 0 (by unfold hc; omega)]; exact h6
    have e5 : I1 11 0 3 = nI 1 := by rw [b4 11 0 (by unfold hc; omega)]; exact h5
    refine ⟨nI (B 0 0 11), I1, wr I1 47 0 0 1941 (fun j => I1 47 1 j), ?_, ?_, Rst_eq hr (Fix_wr b3 (by omega)) (fun k i j q => ?_), B, ?_, hR2, k3, k4, Or.inr ⟨?_, ?_, B, ?_, ?_, k3, k4, Nat.le_refl _⟩⟩
    · simp (disch := omega) only [n_H_back, e_H_back_0, e_H_back_1, e_H_back_2, e_H_back_3, lit, nad, nml, bd_s, ct_s, ct_n, a11, a01, aB2, bitA, nlt, nle, neq, dlT, dlF, deT, deF, dqT, dqF, nN, inb, nsb, ndv, nrm, if_true, if_false, ite_true, ite_false, true_and, and_true, and_self, and_false, false_and, or_true, true_or, or_false, false_or, or_self, ↓reduceIte, eq_self, Nat.reduceAdd, Nat.reduceMul, Nat.reduceSub, Nat.reduceDiv, Nat.reduceMod, Nat.zero_add, Nat.mul_zero, not_true_eq_false, not_false_eq_true, up_T, up_F, wr_T, wr_F, ngE, ngE', ngL, ngL', ngQ, ngQ', h5, b1, y1]
    · simp (disch := omega) only [n_M_back, e_M_back_0, e_M_back_1, e_M_back_2, e_M_back_3, lit, if_false, neq, dqF, e6, cp, bd_s, ct_n, inb, nN, if_true, y3]
    · unfold rstC kstC tapC cntC htsC numC at q
      rw [wr_F (by omega), b4 k i (by unfold hc; omega)]
    · exact RepC_fr b2 k3 (fun k i q => by funext j; unfold hc at q; rw [wr_F (by omega)])
    · rw [wr_F (by omega)]; exact e5
    · rw [wr_F (by omega)]; exact e6
    · exact RepC_fr (RepC_fr k1 k3 (fun k i q => b4 k i (hc_dis (by decide) q))) k3 (fun k i q => by funext j; unfold hc at q; rw [wr_F (by omega)])
    · exact RepR_o hR1 (by funext j; rw [wr_F (by omega)])
theorem Ok_tell (d : Nat) (v : Int32) : Ok (d + 200) q_H_tell q_M_tell [.inl v] := by
  rintro I ⟨hr, hA⟩
  obtain ⟨n, n1, n2, n3, n4⟩ := hr.2.2.2.2.2
  by_cases e : n < 60
  · refine ⟨nI (n + 1), mm_up (mm_up I 46 0 n v) 11 0 16 (nI (n + 1)), mm_up (mm_up (mm_up (mm_up I 46 0 n v) 11 0 16 (nI (n + 1))) 71 0 n v) 12 0 47 (nI (n + 1)), ?_, ?_, ⟨Fix_up (Fix_up (Fix_up (Fix_up hr.1 (by omega)) (by omega)) (by omega)) (by omega), Kst_eq hr.2.1 (fun k i j q => ?_), Tap_eq hr.2.2.1 (fun k i j q => ?_), Cnt_eq hr.2.2.2.1 (fun k i j q => ?_), Hts_eq hr.2.2.2.2.1 (fun k i j q => ?_), ⟨n + 1, by omega, ?_, ?_, fun k hk => ?_⟩⟩, Inv_A hA (fun k i j q => ?_)⟩
    · simp (disch := omega) only [n_H_tell, e_H_tell_0, e_H_tell_1, e_H_tell_2, lit, nad, nml, bd_s, ct_s, ct_n, a11, a01, aB2, bitA, nlt, nle, neq, dlT, dlF, deT, deF, dqT, dqF, nN, inb, nsb, ndv, nrm, if_true, if_false, ite_true, ite_false, true_and, and_true, and_self, and_false, false_and, or_true, true_or, or_false, false_or, or_self, ↓reduceIte, eq_self, Nat.reduceAdd, Nat.reduceMul, Nat.reduceSub, Nat.reduceDiv, Nat.reduceMod, Nat.zero_add, Nat.mul_zero, not_true_eq_false, not_false_eq_true, up_T, up_F, wr_T, wr_F, ngE, ngE', ngL, ngL', ngQ, ngQ', n2]
    · simp (disch := omega) only [n_M_tell, e_M_tell_0, e_M_tell_1, e_M_tell_2, lit, nad, nml, bd_s, ct_s, ct_n, a11, a01, aB2, bitA, nlt, nle, neq, dlT, dlF, deT, deF, dqT, dqF, nN, inb, nsb, ndv, nrm, if_true, if_false, ite_true, ite_false, true_and, and_true, and_self, and_false, false_and, or_true, true_or, or_false, false_or, or_self, ↓reduceIte, eq_self, Nat.reduceAdd, Nat.reduceMul, Nat.reduceSub, Nat.reduceDiv, Nat.reduceMod, Nat.zero_add, Nat.mul_zero, not_true_eq_false, not_false_eq_true, up_T, up_F, wr_T, wr_F, ngE, ngE', ngL, ngL', ngQ, ngQ', n3]
    · unfold kstC at q; simp (disch := omega) only [up_F]
    · unfold tapC at q; simp (disch := omega) only [up_F]
    · unfold cntC at q; simp (disch := omega) only [up_F]
    · unfold htsC at q; simp (disch := omega) only [up_F]
    · simp (disch := omega) only [up_F, up_T]
    · simp (disch := omega) only [up_T]
    · by_cases q : k = n
      · simp (disch := omega) only [up_F, up_T]
      · simp (disch := omega) only [up_F]; exact n4 k (by omega)
    · unfold hc at q; simp (disch := omega) only [up_F]
  · refine ⟨-nI 1000000003, I, I, ?_, ?_, hr, hA⟩
    · simp (disch := omega) only [n_H_tell, e_H_tell_0, e_H_tell_1, e_H_tell_2, lit, nad, nml, bd_s, ct_s, ct_n, a11, a01, aB2, bitA, nlt, nle, neq, dlT, dlF, deT, deF, dqT, dqF, nN, inb, nsb, ndv, nrm, if_true, if_false, ite_true, ite_false, true_and, and_true, and_self, and_false, false_and, or_true, true_or, or_false, false_or, or_self, ↓reduceIte, eq_self, Nat.reduceAdd, Nat.reduceMul, Nat.reduceSub, Nat.reduceDiv, Nat.reduceMod, Nat.zero_add, Nat.mul_zero, not_true_eq_false, not_false_eq_true, up_T, up_F, wr_T, wr_F, ngE, ngE', ngL, ngL', ngQ, ngQ', n2]
    · simp (disch := omega) only [n_M_tell, e_M_tell_0, e_M_tell_1, e_M_tell_2, lit, nad, nml, bd_s, ct_s, ct_n, a11, a01, aB2, bitA, nlt, nle, neq, dlT, dlF, deT, deF, dqT, dqF, nN, inb, nsb, ndv, nrm, if_true, if_false, ite_true, ite_false, true_and, and_true, and_self, and_false, false_and, or_true, true_or, or_false, false_or, or_self, ↓reduceIte, eq_self, Nat.reduceAdd, Nat.reduceMul, Nat.reduceSub, Nat.reduceDiv, Nat.reduceMod, Nat.zero_add, Nat.mul_zero, not_true_eq_false, not_false_eq_true, up_T, up_F, wr_T, wr_F, ngE, ngE', ngL, ngL', ngQ, ngQ', n3]
theorem Ok_trim (d : Nat) (v : Int32) : Ok (d + 200) q_H_trim q_M_trim [.inl v] := by
  rintro I ⟨hr, hA⟩
  obtain ⟨n, T, n1, n2, n3, n4⟩ := hr.2.2.1
  by_cases h : nI 0 ≤ v ∧ v ≤ nI n
  · obtain ⟨k, -, k1, k2⟩ := wof h (by omega) (by omega)
    subst k2
    refine ⟨nI k, mm_up I 5 0 1 (nI k), mm_up (mm_up I 5 0 1 (nI k)) 12 0 11 (nI k), ?_, ?_, ⟨Fix_up (Fix_up hr.1 (by omega)) (by omega), Kst_eq hr.2.1 (fun k i j q => ?_), ⟨k, T, by omega, ?_, ?_, fun i hi => ?_⟩, Cnt_eq hr.2.2.2.1 (fun k i j q => ?_), Hts_eq hr.2.2.2.2.1 (fun k i j q => ?_), Num_eq hr.2.2.2.2.2 (fun k i j q => ?_)⟩, Inv_A hA (fun k i j q => ?_)⟩
    · simp (disch := omega) only [n_H_trim, e_H_trim_0, e_H_trim_1, e_H_trim_2, e_H_trim_3, s_H_within, lit, nad, nml, bd_s, ct_s, ct_n, a11, a01, aB2, bitA, nlt, nle, neq, dlT, dlF, deT, deF, dqT, dqF, nN, inb, nsb, ndv, nrm, if_true, if_false, ite_true, ite_false, true_and, and_true, and_self, and_false, false_and, or_true, true_or, or_false, false_or, or_self, ↓reduceIte, eq_self, Nat.reduceAdd, Nat.reduceMul, Nat.reduceSub, Nat.reduceDiv, Nat.reduceMod, Nat.zero_add, Nat.mul_zero, not_true_eq_false, not_false_eq_true, up_T, up_F, wr_T, wr_F, ngE, ngE', ngL, ngL', ngQ, ngQ', n2]
    · simp (disch := omega) only [n_M_trim, e_M_trim_0, e_M_trim_1, e_M_trim_2, e_M_trim_3, s_M_in, lit, nad, nml, bd_s, ct_s, ct_n, a11, a01, aB2, bitA, nlt, nle, neq, dlT, dlF, deT, deF, dqT, dqF, nN, inb, nsb, ndv, nrm, if_true, if_false, ite_true, ite_false, true_and, and_true, and_self, and_false, false_and, or_true, true_or, or_false, false_or, or_self, ↓reduceIte, eq_self, Nat.reduceAdd, Nat.reduceMul, Nat.reduceSub, Nat.reduceDiv, Nat.reduceMod, Nat.zero_add, Nat.mul_zero, not_true_eq_false, not_false_eq_true, up_T, up_F, wr_T, wr_F, ngE, ngE', ngL, ngL', ngQ, ngQ', n3]
    · unfold kstC at q; simp (disch := omega) only [up_F]
    · simp (disch := omega) only [up_F, up_T]
    · simp (disch := omega) only [up_T]
    · simp (disch := omega) only [up_F]; exact n4 i (by omega)
    · unfold cntC at q; simp (disch := omega) only [up_F]
    · unfold htsC at q; simp (disch := omega) only [up_F]
    · unfold numC at q; simp (disch := omega) only [up_F]
    · unfold hc at q; simp (disch := omega) only [up_F]
  · refine ⟨-nI 1000000001, I, I, ?_, ?_, hr, hA⟩
    · simp (disch := omega) only [n_H_trim, e_H_trim_0, e_H_trim_1, e_H_trim_2, e_H_trim_3, s_H_within, lit, nad, nml, bd_s, ct_s, ct_n, a11, a01, aB2, bitA, nlt, nle, neq, dlT, dlF, deT, deF, dqT, dqF, nN, inb, nsb, ndv, nrm, if_true, if_false, ite_true, ite_false, true_and, and_true, and_self, and_false, false_and, or_true, true_or, or_false, false_or, or_self, ↓reduceIte, eq_self, Nat.reduceAdd, Nat.reduceMul, Nat.reduceSub, Nat.reduceDiv, Nat.reduceMod, Nat.zero_add, Nat.mul_zero, not_true_eq_false, not_false_eq_true, up_T, up_F, wr_T, wr_F, ngE, ngE', ngL, ngL', ngQ, ngQ', n2, h]
    · simp (disch := omega) only [n_M_trim, e_M_trim_0, e_M_trim_1, e_M_trim_2, e_M_trim_3, s_M_in, lit, nad, nml, bd_s, ct_s, ct_n, a11, a01, aB2, bitA, nlt, nle, neq, dlT, dlF, deT, deF, dqT, dqF, nN, inb, nsb, ndv, nrm, if_true, if_false, ite_true, ite_false, true_and, and_true, and_self, and_false, false_and, or_true, true_or, or_false, false_or, or_self, ↓reduceIte, eq_self, Nat.reduceAdd, Nat.reduceMul, Nat.reduceSub, Nat.reduceDiv, Nat.reduceMod, Nat.zero_add, Nat.mul_zero, not_true_eq_false, not_false_eq_true, up_T, up_F, wr_T, wr_F, ngE, ngE', ngL, ngL', ngQ, ngQ', n3, h]
