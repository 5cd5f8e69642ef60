/-! Huts. -/
def HT (I : mm_I) (h : Nat) : Prop := ∃ t, t ≤ 3 ∧ I 4 h 0 = nI t ∧ I 68 0 h = nI t ∧ (t = 1 → ∃ f, StC I (49 + h) f ∧ StG f ∧ I 69 0 (4 * h) = nI (f 8) ∧ I 69 0 (4 * h + 1) = nI (f 2) ∧ I 69 0 (4 * h + 2) = nI (f 3) ∧ I 69 0 (4 * h + 3) = nI (f 5)) ∧ (t = 3 → I 70 0 h = I 4 h 3)
theorem HT_eq {I I' : mm_I} {h : Nat} (hh : HT I h) (e4 : ∀ j, I' 4 h j = I 4 h j) (e68 : I' 68 0 h = I 68 0 h) (e8 : ∀ j, I' 8 (49 + h) j = I 8 (49 + h) j) (e69 : ∀ j, j < 4 → I' 69 0 (4 * h + j) = I 69 0 (4 * h + j)) (e70 : I' 70 0 h = I 70 0 h) : HT I' h := by
  obtain ⟨t, t1, t2, t3, t4, t5⟩ := hh
  refine ⟨t, t1, by rw [e4]; exact t2, by rw [e68]; exact t3, fun q => ?_, fun q => by rw [e70, e4]; exact t5 q⟩
  obtain ⟨f, f1, f2, f3, f4, f5, f6⟩ := t4 q
  have e0 := e69 0 (by decide)
  rw [Nat.add_zero] at e0
  refine ⟨f, StC_c f1 (by funext j; exact e8 j), f2, by rw [e0]; exact f3, by rw [e69 1 (by decide)]; exact f4, by rw [e69 2 (by decide)]; exact f5, by rw [e69 3 (by decide)]; exact f6⟩
theorem Inv_hut {I I' : mm_I} (h : Inv I) (e : ∀ k i j, ¬ (k = 1 ∨ k = 25 ∨ k = 64 ∨ k = 65 ∨ k = 66 ∨ k = 67 ∨ k = 4 ∨ k = 68 ∨ k = 69 ∨ k = 70 ∨ (k = 8 ∧ 49 ≤ i)) → I' k i j = I k i j) (hcm : ∀ c, c < 9 → CM I' c) (hht : ∀ h, h < 5 → HT I' h) : Inv I' := by
  obtain ⟨hr, hA⟩ := h
  refine ⟨⟨Fix_o hr.1 (fun r j _ => e _ _ _ (by omega)), Kst_eq hr.2.1 (fun k i j q => e k i j (by unfold kstC at q; omega)), Tap_eq hr.2.2.1 (fun k i j q => e k i j (by unfold tapC at q; omega)), Cnt_iff.mpr hcm, hht, Num_eq hr.2.2.2.2.2 (fun k i j q => e k i j (by unfold numC at q; omega))⟩, Inv_A hA (fun k i j q => e k i j (by unfold hc at q; omega))⟩
theorem s_Counter_become (d c e z : Nat) (s : Int32) (q : Nat → Nat) (I : mm_I) (h : CR I e s z q) (hce : c ≠ e) : Sn (d + 1) q_Counter_become [.inr (1, c), .inr (1, e)] I = some (none, (sh0, wr (mm_up (mm_up I 1 c 0 s) 1 c 1 (nI z)) 25 c 0 24 (fun k => I 25 e k))) := by
  obtain ⟨h1, h2, h3⟩ := h
  simp (disch := omega) only [n_Counter_become, e_Counter_become_0, lit, nad, nml, bd_s, ct_s, ct_n, a11, a01, aB2, bitA, nlt, nle, neq, dlT, dlF, deT, deF, dqT, dqF, nN, inb, nsb, ndv, nrm, if_true, if_false, ite_true, ite_false, true_and, and_true, and_self, and_false, false_and, or_true, true_or, or_false, false_or, or_self, ↓reduceIte, eq_self, Nat.reduceAdd, Nat.reduceMul, Nat.reduceSub, Nat.reduceDiv, Nat.reduceMod, Nat.zero_add, Nat.mul_zero, not_true_eq_false, not_false_eq_true, up_T, up_F, wr_T, wr_F, ngE, ngE', ngL, ngL', ngQ, ngQ', h1, h2, acT, cp_wr]
  exact if_pos (by decide)
theorem Ok_lay (d : Nat) (h t k : Int32) : Ok (d + 200) q_H_lay q_M_lay [.inl h, .inl t, .inl k] := by
  intro I hI
  by_cases h1 : nI 0 ≤ h ∧ h ≤ nI 4
  rotate_left
  · refine ⟨-nI 1000000001, I, I, ?_, ?_, hI⟩
    · simp (disch := omega) only [n_H_lay, e_H_lay_0, e_H_lay_1, e_H_lay_2, e_H_lay_3, e_H_lay_4, n_H_isHut, e_H_isHut_0, e_H_isHut_1, s_H_within, lit, nad, nml, bd_s, ct_s, ct_n, a11, a01, aB2, bitA, nlt, nle, neq, dlT, dlF, deT, deF, dqT, dqF, nN, inb, nsb, ndv, nrm, if_true, if_false, ite_true, ite_false, true_and, and_true, and_self, and_false, false_and, or_true, true_or, or_false, false_or, or_self, ↓reduceIte, eq_self, Nat.reduceAdd, Nat.reduceMul, Nat.reduceSub, Nat.reduceDiv, Nat.reduceMod, Nat.zero_add, Nat.mul_zero, not_true_eq_false, not_false_eq_true, up_T, up_F, wr_T, wr_F, ngE, ngE', ngL, ngL', ngQ, ngQ', h1]
    · simp (disch := omega) only [n_M_lay, e_M_lay_0, e_M_lay_1, e_M_lay_2, e_M_lay_3, e_M_lay_4, e_M_lay_10, n_M_isHut, e_M_isHut_0, e_M_isHut_1, s_M_in, lit, nad, nml, bd_s, ct_s, ct_n, a11, a01, aB2, bitA, nlt, nle, neq, dlT, dlF, deT, deF, dqT, dqF, nN, inb, nsb, ndv, nrm, if_true, if_false, ite_true, ite_false, true_and, and_true, and_self, and_false, false_and, or_true, true_or, or_false, false_or, or_self, ↓reduceIte, eq_self, Nat.reduceAdd, Nat.reduceMul, Nat.reduceSub, Nat.reduceDiv, Nat.reduceMod, Nat.zero_add, Nat.mul_zero, not_true_eq_false, not_false_eq_true, up_T, up_F, wr_T, wr_F, ngE, ngE', ngL, ngL', ngQ, ngQ', h1]
  obtain ⟨h', -, c1, c2⟩ := wof h1 (by decide) (by decide)
  subst c2
  by_cases h0 : nI 0 ≤ t ∧ t ≤ nI 3
  rotate_left
  · refine ⟨-nI 1000000001, I, I, ?_, ?_, hI⟩
    · simp (disch := omega) only [n_H_lay, e_H_lay_0, e_H_lay_1, e_H_lay_2, e_H_lay_3, e_H_lay_4, n_H_isHut, e_H_isHut_0, e_H_isHut_1, s_H_within, lit, nad, nml, bd_s, ct_s, ct_n, a11, a01, aB2, bitA, nlt, nle, neq, dlT, dlF, deT, deF, dqT, dqF, nN, inb, nsb, ndv, nrm, if_true, if_false, ite_true, ite_false, true_and, and_true, and_self, and_false, false_and, or_true, true_or, or_false, false_or, or_self, ↓reduceIte, eq_self, Nat.reduceAdd, Nat.reduceMul, Nat.reduceSub, Nat.reduceDiv, Nat.reduceMod, Nat.zero_add, Nat.mul_zero, not_true_eq_false, not_false_eq_true, up_T, up_F, wr_T, wr_F, ngE, ngE', ngL, ngL', ngQ, ngQ', h0]
    · simp (disch := omega) only [n_M_lay, e_M_lay_0, e_M_lay_1, e_M_lay_2, e_M_lay_3, e_M_lay_4, e_M_lay_10, n_M_isHut, e_M_isHut_0, e_M_isHut_1, s_M_in, lit, nad, nml, bd_s, ct_s, ct_n, a11, a01, aB2, bitA, nlt, nle, neq, dlT, dlF, deT, deF, dqT, dqF, nN, inb, nsb, ndv, nrm, if_true, if_false, ite_true, ite_false, true_and, and_true, and_self, and_false, false_and, or_true, true_or, or_false, false_or, or_self, ↓reduceIte, eq_self, Nat.reduceAdd, Nat.reduceMul, Nat.reduceSub, Nat.reduceDiv, Nat.reduceMod, Nat.zero_add, Nat.mul_zero, not_true_eq_false, not_false_eq_true, up_T, up_F, wr_T, wr_F, ngE, ngE', ngL, ngL', ngQ, ngQ', h0]
  obtain ⟨t', -, t1, t2⟩ := wof h0 (by decide) (by decide)
  subst t2
  obtain ⟨hr, A, hC, hR, g, hy, hG⟩ := id hI
  have cm := Cnt_iff.mp hI.1.2.2.2.1
  have hht : ∀ h, h < 5 → HT I h := hI.1.2.2.2.2.1
  obtain ⟨o, o1, o2, o3, -, -⟩ := hht h' (by omega)
  rcases (show t' = 0 ∨ t' = 1 ∨ t' = 2 ∨ t' = 3 by omega) with e | e | e | e <;> subst e
  · have hH : Sn (d + 200) q_H_lay [.inr (11, 0), .inl (nI h'), .inl (nI 0), .inl k] I = some (some (.inl (nI o)), (sh0, mm_up I 4 h' 0 (nI 0))) := by
      simp (disch := omega) only [n_H_lay, e_H_lay_0, e_H_lay_1, e_H_lay_2, e_H_lay_3, e_H_lay_5, e_H_lay_9, e_H_lay_13, e_H_lay_16, e_H_lay_18, e_H_lay_20, e_H_lay_22, n_H_isHut, e_H_isHut_0, e_H_isHut_1, s_H_within, lit, nad, nml, bd_s, ct_s, ct_n, a11, a01, aB2, bitA, nlt, nle, neq, dlT, dlF, deT, deF, dqT, dqF, nN, inb, nsb, ndv, nrm, if_true, if_false, ite_true, ite_false, true_and, and_true, and_self, and_false, false_and, or_true, true_or, or_false, false_or, or_self, ↓reduceIte, eq_self, Nat.reduceAdd, Nat.reduceMul, Nat.reduceSub, Nat.reduceDiv, Nat.reduceMod, Nat.zero_add, Nat.mul_zero, not_true_eq_false, not_false_eq_true, up_T, up_F, wr_T, wr_F, ngE, ngE', ngL, ngL', ngQ, ngQ', o2]
    have hM : Sn (d + 200) q_M_lay [.inr (12, 0), .inl (nI h'), .inl (nI 0), .inl k] (mm_up I 4 h' 0 (nI 0)) = some (some (.inl (nI o)), (sh0, mm_up (mm_up (mm_up I 4 h' 0 (nI 0)) 68 0 h' (nI 0)) 70 0 h' (nI 0))) := by
      simp (disch := omega) only [n_M_lay, e_M_lay_0, e_M_lay_1, e_M_lay_2, e_M_lay_3, e_M_lay_4, e_M_lay_7, e_M_lay_11, e_M_lay_14, e_M_lay_20, e_M_lay_24, e_M_lay_26, e_M_lay_27, n_M_isHut, e_M_isHut_0, e_M_isHut_1, s_M_in, lit, nad, nml, bd_s, ct_s, ct_n, a11, a01, aB2, bitA, nlt, nle, neq, dlT, dlF, deT, deF, dqT, dqF, nN, inb, nsb, ndv, nrm, if_true, if_false, ite_true, ite_false, true_and, and_true, and_self, and_false, false_and, or_true, true_or, or_false, false_or, or_self, ↓reduceIte, eq_self, Nat.reduceAdd, Nat.reduceMul, Nat.reduceSub, Nat.reduceDiv, Nat.reduceMod, Nat.zero_add, Nat.mul_zero, not_true_eq_false, not_false_eq_true, up_T, up_F, wr_T, wr_F, ngE, ngE', ngL, ngL', ngQ, ngQ', o3]
    refine ⟨nI o, _, _, hH, hM, Inv_hut hI (fun k i j q => by simp (disch := omega) only [up_F]) (fun c hc => CM_eq (cm c hc) (fun j => ?_) (fun k hk => ?_) ?_ ?_ (fun k hk => ?_)) (fun h hh => ?_)⟩
    · simp (disch := omega) only [up_F]
    · simp (disch := omega) only [up_F]
    · simp (disch := omega) only [up_F]
    · simp (disch := omega) only [up_F]
    · simp (disch := omega) only [up_F]
    · by_cases w : h = h'
      · subst w
        exact ⟨0, by omega, by simp (disch := omega) only [up_F, up_T], by simp (disch := omega) only [up_F, up_T], fun q => by omega, fun q => by omega⟩
      · refine HT_eq (hht h hh) (fun j => ?_) ?_ (fun j => ?_) (fun j hj => ?_) ?_ <;> simp (disch := omega) only [up_F]
  · rcases ix k with hk | ⟨j, hj, hk⟩
    · refine ⟨-nI 1000000001, I, I, ?_, ?_, hI⟩
      · simp (disch := omega) only [n_H_lay, e_H_lay_0, e_H_lay_1, e_H_lay_2, e_H_lay_3, e_H_lay_5, e_H_lay_6, e_H_lay_7, e_H_lay_8, n_H_isHut, e_H_isHut_0, e_H_isHut_1, s_H_within, lit, nad, nml, bd_s, ct_s, ct_n, a11, a01, aB2, bitA, nlt, nle, neq, dlT, dlF, deT, deF, dqT, dqF, nN, inb, nsb, ndv, nrm, if_true, if_false, ite_true, ite_false, true_and, and_true, and_self, and_false, false_and, or_true, true_or, or_false, false_or, or_self, ↓reduceIte, eq_self, Nat.reduceAdd, Nat.reduceMul, Nat.reduceSub, Nat.reduceDiv, Nat.reduceMod, Nat.zero_add, Nat.mul_zero, not_true_eq_false, not_false_eq_true, up_T, up_F, wr_T, wr_F, ngE, ngE', ngL, ngL', ngQ, ngQ', s_H_isStretchN _ _ _ hk]
      · simp (disch := omega) only [n_M_lay, e_M_lay_0, e_M_lay_1, e_M_lay_2, e_M_lay_3, e_M_lay_4, e_M_lay_5, e_M_lay_6, e_M_lay_10, n_M_isHut, e_M_isHut_0, e_M_isHut_1, s_M_in, lit, nad, nml, bd_s, ct_s, ct_n, a11, a01, aB2, bitA, nlt, nle, neq, dlT, dlF, deT, deF, dqT, dqF, nN, inb, nsb, ndv, nrm, if_true, if_false, ite_true, ite_false, true_and, and_true, and_self, and_false, false_and, or_true, true_or, or_false, false_or, or_self, ↓reduceIte, eq_self, Nat.reduceAdd, Nat.reduceMul, Nat.reduceSub, Nat.reduceDiv, Nat.reduceMod, Nat.zero_add, Nat.mul_zero, not_true_eq_false, not_false_eq_true, up_T, up_F, wr_T, wr_F, ngE, ngE', ngL, ngL', ngQ, ngQ', s_M_isPathN _ _ _ hk]
    subst hk
    have i1 := s_H_isStretch (d + 197) j A I hC g hj
    have i2 := s_M_isPath (d + 197) j A I hR g hj
    have hn := g.1.1
    by_cases w0 : j < A 0 0 0
    rotate_left
    · rw [if_neg w0] at i1 i2
      refine ⟨-nI 1000000001, I, I, ?_, ?_, hI⟩
      · simp (disch := omega) only [n_H_lay, e_H_lay_0, e_H_lay_1, e_H_lay_2, e_H_lay_3, e_H_lay_5, e_H_lay_6, e_H_lay_7, e_H_lay_8, n_H_isHut, e_H_isHut_0, e_H_isHut_1, s_H_within, lit, nad, nml, bd_s, ct_s, ct_n, a11, a01, aB2, bitA, nlt, nle, neq, dlT, dlF, deT, deF, dqT, dqF, nN, inb, nsb, ndv, nrm, if_true, if_false, ite_true, ite_false, true_and, and_true, and_self, and_false, false_and, or_true, true_or, or_false, false_or, or_self, ↓reduceIte, eq_self, Nat.reduceAdd, Nat.reduceMul, Nat.reduceSub, Nat.reduceDiv, Nat.reduceMod, Nat.zero_add, Nat.mul_zero, not_true_eq_false, not_false_eq_true, up_T, up_F, wr_T, wr_F, ngE, ngE', ngL, ngL', ngQ, ngQ', i1]
      · simp (disch := omega) only [n_M_lay, e_M_lay_0, e_M_lay_1, e_M_lay_2, e_M_lay_3, e_M_lay_4, e_M_lay_5, e_M_lay_6, e_M_lay_10, n_M_isHut, e_M_isHut_0, e_M_isHut_1, s_M_in, lit, nad, nml, bd_s, ct_s, ct_n, a11, a01, aB2, bitA, nlt, nle, neq, dlT, dlF, deT, deF, dqT, dqF, nN, inb, nsb, ndv, nrm, if_true, if_false, ite_true, ite_false, true_and, and_true, and_self, and_false, false_and, or_true, true_or, or_false, false_or, or_self, ↓reduceIte, eq_self, Nat.reduceAdd, Nat.reduceMul, Nat.reduceSub, Nat.reduceDiv, Nat.reduceMod, Nat.zero_add, Nat.mul_zero, not_true_eq_false, not_false_eq_true, up_T, up_F, wr_T, wr_F, ngE, ngE', ngL, ngL', ngQ, ngQ', i2]
    rw [if_pos w0] at i1
    have e0 : ∀ k i, ¬ (k = 4 ∧ i = h') → (mm_up I 4 h' 0 (nI 1)) k i = I k i := fun k i q => by funext j; exact up_F (by omega)
    obtain ⟨I1, b1, b2, b3⟩ := s_Stretch_become (d + 198) (h' + 49) j (A 1 j) (mm_up I 4 h' 0 (nI 1)) (StC_c (c0_st hC w0) (e0 8 j (by omega))) (stG g w0).2.2.2.2.2.2.2.2.2.2.1 (by omega)
    have hH : Sn (d + 200) q_H_lay [.inr (11, 0), .inl (nI h'), .inl (nI 1), .inl (nI j)] I = some (some (.inl (nI o)), (sh0, I1)) := by
      simp (disch := omega) only [n_H_lay, e_H_lay_0, e_H_lay_1, e_H_lay_2, e_H_lay_3, e_H_lay_5, e_H_lay_6, e_H_lay_7, e_H_lay_9, e_H_lay_13, e_H_lay_16, e_H_lay_17, e_H_lay_18, e_H_lay_20, e_H_lay_22, n_H_isHut, e_H_isHut_0, e_H_isHut_1, s_H_within, lit, nad, nml, bd_s, ct_s, ct_n, a11, a01, aB2, bitA, nlt, nle, neq, dlT, dlF, deT, deF, dqT, dqF, nN, inb, nsb, ndv, nrm, if_true, if_false, ite_true, ite_false, true_and, and_true, and_self, and_false, false_and, or_true, true_or, or_false, false_or, or_self, ↓reduceIte, eq_self, Nat.reduceAdd, Nat.reduceMul, Nat.reduceSub, Nat.reduceDiv, Nat.reduceMod, Nat.zero_add, Nat.mul_zero, not_true_eq_false, not_false_eq_true, up_T, up_F, wr_T, wr_F, ngE, ngE', ngL, ngL', ngQ, ngQ', o2, i1, b1]
    have e1 : ∀ k i, ¬ (k = 4 ∧ i = h') → ¬ (k = 8 ∧ i = h' + 49) → I1 k i = I k i := fun k i q1 q2 => by rw [b3 k i q2, e0 k i q1]
    have e4 : ∀ j, I1 4 h' j = (mm_up I 4 h' 0 (nI 1)) 4 h' j := fun j => by rw [b3 4 h' (by omega)]
    have hR1 : RepR 0 A I1 := RepR_o hR (e1 47 0 (by omega) (by omega))
    have j2 := s_M_isPath (d + 197) j A I1 hR1 g hj
    rw [if_pos w0] at j2
    have o3' : I1 68 0 h' = nI o := by rw [e1 68 0 (by omega) (by omega)]; exact o3
    have st := fun c (hc : c < 9) (W : mm_I) (hW : W 47 0 = I1 47 0) => s_M_of9 (d + 198) j c A W (RepR_o hR1 hW) g w0 hc
    have hM : Sn (d + 200) q_M_lay [.inr (12, 0), .inl (nI h'), .inl (nI 1), .inl (nI j)] I1 = some (some (.inl (nI o)), (sh0, mm_up (mm_up (mm_up (mm_up (mm_up (mm_up I1 68 0 h' (nI 1)) 69 0 (4 * h') (nI (A 1 j 8))) 69 0 (4 * h' + 1) (nI (A 1 j 2))) 69 0 (4 * h' + 2) (nI (A 1 j 3))) 69 0 (4 * h' + 3) (nI (A 1 j 5))) 70 0 h' (nI 0))) := by
      have s8 := st 8 (by decide) (mm_up I1 68 0 h' (nI 1)) (by funext q; exact up_F (by omega))
      have s2 := st 2 (by decide) (mm_up (mm_up I1 68 0 h' (nI 1)) 69 0 (4 * h') (nI (A 1 j 8))) (by funext q; simp (disch := omega) only [up_F])
      have s3 := st 3 (by decide) (mm_up (mm_up (mm_up I1 68 0 h' (nI 1)) 69 0 (4 * h') (nI (A 1 j 8))) 69 0 (4 * h' + 1) (nI (A 1 j 2))) (by funext q; simp (disch := omega) only [up_F])
      have s5 := st 5 (by decide) (mm_up (mm_up (mm_up (mm_up I1 68 0 h' (nI 1)) 69 0 (4 * h') (nI (A 1 j 8))) 69 0 (4 * h' + 1) (nI (A 1 j 2))) 69 0 (4 * h' + 2) (nI (A 1 j 3))) (by funext q; simp (disch := omega) only [up_F])
      simp (disch := omega) only [n_M_lay, e_M_lay_0, e_M_lay_1, e_M_lay_2, e_M_lay_3, e_M_lay_4, e_M_lay_5, e_M_lay_6, e_M_lay_7, e_M_lay_11, e_M_lay_14, e_M_lay_15, e_M_lay_16, e_M_lay_17, e_M_lay_18, e_M_lay_19, e_M_lay_20, e_M_lay_24, e_M_lay_26, e_M_lay_27, n_M_isHut, e_M_isHut_0, e_M_isHut_1, s_M_in, lit, nad, nml, bd_s, ct_s, ct_n, a11, a01, aB2, bitA, nlt, nle, neq, dlT, dlF, deT, deF, dqT, dqF, nN, inb, nsb, ndv, nrm, if_true, if_false, ite_true, ite_false, true_and, and_true, and_self, and_false, false_and, or_true, true_or, or_false, false_or, or_self, ↓reduceIte, eq_self, Nat.reduceAdd, Nat.reduceMul, Nat.reduceSub, Nat.reduceDiv, Nat.reduceMod, Nat.zero_add, Nat.mul_zero, not_true_eq_false, not_false_eq_true, up_T, up_F, wr_T, wr_F, ngE, ngE', ngL, ngL', ngQ, ngQ', o3', j2, s8, s2, s3, s5]
    refine ⟨nI o, _, _, hH, hM, Inv_hut hI (fun k i j q => ?_) (fun c hc => CM_eq (cm c hc) (fun j => ?_) (fun k hk => ?_) ?_ ?_ (fun k hk => ?_)) (fun h hh => ?_)⟩
    · simp (disch := omega) only [up_F]; rw [e1 k i (by omega) (by omega)]
    · simp (disch := omega) only [up_F]; rw [e1 _ _ (by omega) (by omega)]
    · simp (disch := omega) only [up_F]; rw [e1 _ _ (by omega) (by omega)]
    · simp (disch := omega) only [up_F]; rw [e1 _ _ (by omega) (by omega)]
    · simp (disch := omega) only [up_F]; rw [e1 _ _ (by omega) (by omega)]
    · simp (disch := omega) only [up_F]; rw [e1 _ _ (by omega) (by omega)]
    · by_cases w : h = h'
      · subst w
        refine ⟨1, by omega, by simp (disch := omega) only [up_F]; rw [e4, up_s], by simp (disch := omega) only [up_F, up_T], fun _ => ⟨A 1 j, ?_, stG g w0, ?_, ?_, ?_, ?_⟩, fun q => by omega⟩
        · refine StC_c (I := I1) (by rw [Nat.add_comm]; exact b2) (by funext q; simp (disch := omega) only [up_F])
        · simp (disch := omega) only [up_F, up_T]
        · simp (disch := omega) only [up_F, up_T]
        · simp (disch := omega) only [up_F, up_T]
        · simp (disch := omega) only [up_F, up_T]
      · refine HT_eq (hht h hh) (fun j => ?_) ?_ (fun j => ?_) (fun j hj => ?_) ?_ <;> simp (disch := omega) only [up_F] <;> rw [e1 _ _ (by omega) (by omega)]
  · by_cases hk : nI 0 ≤ k ∧ k ≤ nI 3
    rotate_left
    · refine ⟨-nI 1000000001, I, I, ?_, ?_, hI⟩
      · simp (disch := omega) only [n_H_lay, e_H_lay_0, e_H_lay_1, e_H_lay_2, e_H_lay_3, e_H_lay_5, e_H_lay_9, e_H_lay_10, e_H_lay_11, e_H_lay_12, n_H_isHut, e_H_isHut_0, e_H_isHut_1, n_H_isCounter, e_H_isCounter_0, e_H_isCounter_1, s_H_within, lit, nad, nml, bd_s, ct_s, ct_n, a11, a01, aB2, bitA, nlt, nle, neq, dlT, dlF, deT, deF, dqT, dqF, nN, inb, nsb, ndv, nrm, if_true, if_false, ite_true, ite_false, true_and, and_true, and_self, and_false, false_and, or_true, true_or, or_false, false_or, or_self, ↓reduceIte, eq_self, Nat.reduceAdd, Nat.reduceMul, Nat.reduceSub, Nat.reduceDiv, Nat.reduceMod, Nat.zero_add, Nat.mul_zero, not_true_eq_false, not_false_eq_true, up_T, up_F, wr_T, wr_F, ngE, ngE', ngL, ngL', ngQ, ngQ', hk]
      · simp (disch := omega) only [n_M_lay, e_M_lay_0, e_M_lay_1, e_M_lay_2, e_M_lay_3, e_M_lay_4, e_M_lay_7, e_M_lay_8, e_M_lay_9, e_M_lay_10, n_M_isHut, e_M_isHut_0, e_M_isHut_1, n_M_isCounter, e_M_isCounter_0, e_M_isCounter_1, s_M_in, lit, nad, nml, bd_s, ct_s, ct_n, a11, a01, aB2, bitA, nlt, nle, neq, dlT, dlF, deT, deF, dqT, dqF, nN, inb, nsb, ndv, nrm, if_true, if_false, ite_true, ite_false, true_and, and_true, and_self, and_false, false_and, or_true, true_or, or_false, false_or, or_self, ↓reduceIte, eq_self, Nat.reduceAdd, Nat.reduceMul, Nat.reduceSub, Nat.reduceDiv, Nat.reduceMod, Nat.zero_add, Nat.mul_zero, not_true_eq_false, not_false_eq_true, up_T, up_F, wr_T, wr_F, ngE, ngE', ngL, ngL', ngQ, ngQ', hk]
    obtain ⟨j, -, j1, j2⟩ := wof hk (by decide) (by decide)
    subst j2
    obtain ⟨s, z, q, q1, q2, q3, qC, qM⟩ := cm j (by omega)
    have q4 := qC.1
    have q7 := qM.1
    have hs := sE q1
    by_cases h2 : s = -nI 1
    · refine ⟨-nI 1000000011, I, I, ?_, ?_, hI⟩
      · simp (disch := omega) only [n_H_lay, e_H_lay_0, e_H_lay_1, e_H_lay_2, e_H_lay_3, e_H_lay_5, e_H_lay_9, e_H_lay_10, e_H_lay_11, e_H_lay_13, e_H_lay_14, e_H_lay_15, n_H_isHut, e_H_isHut_0, e_H_isHut_1, n_H_isCounter, e_H_isCounter_0, e_H_isCounter_1, s_H_within, lit, nad, nml, bd_s, ct_s, ct_n, a11, a01, aB2, bitA, nlt, nle, neq, dlT, dlF, deT, deF, dqT, dqF, nN, inb, nsb, ndv, nrm, if_true, if_false, ite_true, ite_false, true_and, and_true, and_self, and_false, false_and, or_true, true_or, or_false, false_or, or_self, ↓reduceIte, eq_self, Nat.reduceAdd, Nat.reduceMul, Nat.reduceSub, Nat.reduceDiv, Nat.reduceMod, Nat.zero_add, Nat.mul_zero, not_true_eq_false, not_false_eq_true, up_T, up_F, wr_T, wr_F, ngE, ngE', ngL, ngL', ngQ, ngQ', q4, h2]
      · simp (disch := omega) only [n_M_lay, e_M_lay_0, e_M_lay_1, e_M_lay_2, e_M_lay_3, e_M_lay_4, e_M_lay_7, e_M_lay_8, e_M_lay_9, e_M_lay_11, e_M_lay_12, e_M_lay_13, n_M_isHut, e_M_isHut_0, e_M_isHut_1, n_M_isCounter, e_M_isCounter_0, e_M_isCounter_1, s_M_in, lit, nad, nml, bd_s, ct_s, ct_n, a11, a01, aB2, bitA, nlt, nle, neq, dlT, dlF, deT, deF, dqT, dqF, nN, inb, nsb, ndv, nrm, if_true, if_false, ite_true, ite_false, true_and, and_true, and_self, and_false, false_and, or_true, true_or, or_false, false_or, or_self, ↓reduceIte, eq_self, Nat.reduceAdd, Nat.reduceMul, Nat.reduceSub, Nat.reduceDiv, Nat.reduceMod, Nat.zero_add, Nat.mul_zero, not_true_eq_false, not_false_eq_true, up_T, up_F, wr_T, wr_F, ngE, ngE', ngL, ngL', ngQ, ngQ', q7, hs, h2]
    have qC' : CR (mm_up I 4 h' 0 (nI 2)) j s z q := ⟨by rw [up_F (by omega)]; exact qC.1, by rw [up_F (by omega)]; exact qC.2.1, fun k hk => by rw [up_F (by omega)]; exact qC.2.2 k hk⟩
    have bc := s_Counter_become (d + 198) (h' + 4) j z s q (mm_up I 4 h' 0 (nI 2)) qC' (by omega)
    have e25 : ∀ k, (mm_up I 4 h' 0 (nI 2)) 25 j k = I 25 j k := fun k => up_F (by omega)
    simp only [e25] at bc
    have hH : Sn (d + 200) q_H_lay [.inr (11, 0), .inl (nI h'), .inl (nI 2), .inl (nI j)] I = some (some (.inl (nI o)), (sh0, wr (mm_up (mm_up (mm_up I 4 h' 0 (nI 2)) 1 (h' + 4) 0 s) 1 (h' + 4) 1 (nI z)) 25 (h' + 4) 0 24 (fun k => I 25 j k))) := by
      simp (disch := omega) only [n_H_lay, e_H_lay_0, e_H_lay_1, e_H_lay_2, e_H_lay_3, e_H_lay_5, e_H_lay_9, e_H_lay_10, e_H_lay_11, e_H_lay_13, e_H_lay_14, e_H_lay_16, e_H_lay_18, e_H_lay_19, e_H_lay_20, e_H_lay_22, n_H_isHut, e_H_isHut_0, e_H_isHut_1, n_H_isCounter, e_H_isCounter_0, e_H_isCounter_1, s_H_within, lit, nad, nml, bd_s, ct_s, ct_n, a11, a01, aB2, bitA, nlt, nle, neq, dlT, dlF, deT, deF, dqT, dqF, nN, inb, nsb, ndv, nrm, if_true, if_false, ite_true, ite_false, true_and, and_true, and_self, and_false, false_and, or_true, true_or, or_false, false_or, or_self, ↓reduceIte, eq_self, Nat.reduceAdd, Nat.reduceMul, Nat.reduceSub, Nat.reduceDiv, Nat.reduceMod, Nat.zero_add, Nat.mul_zero, not_true_eq_false, not_false_eq_true, up_T, up_F, wr_T, wr_F, ngE, ngE', ngL, ngL', ngQ, ngQ', o2, q4, h2, bc]
    have e66 : ∀ k, (wr (mm_up (mm_up (mm_up I 4 h' 0 (nI 2)) 1 (h' + 4) 0 s) 1 (h' + 4) 1 (nI z)) 25 (h' + 4) 0 24 (fun k => I 25 j k)) 66 0 k = I 66 0 k := fun k => by simp (disch := omega) only [up_F, wr_F]
    have x3 : (wr (mm_up (mm_up (mm_up I 4 h' 0 (nI 2)) 1 (h' + 4) 0 s) 1 (h' + 4) 1 (nI z)) 25 (h' + 4) 0 24 (fun k => I 25 j k)) 68 0 h' = nI o := by simp (disch := omega) only [up_F, wr_F]; exact o3
    have x7 : (wr (mm_up (mm_up (mm_up I 4 h' 0 (nI 2)) 1 (h' + 4) 0 s) 1 (h' + 4) 1 (nI z)) 25 (h' + 4) 0 24 (fun k => I 25 j k)) 64 0 j = s := by simp (disch := omega) only [up_F, wr_F]; exact q7
    have x8 : (wr (mm_up (mm_up (mm_up I 4 h' 0 (nI 2)) 1 (h' + 4) 0 s) 1 (h' + 4) 1 (nI z)) 25 (h' + 4) 0 24 (fun k => I 25 j k)) 65 0 j = nI z := by simp (disch := omega) only [up_F, wr_F]; exact qM.2.1
    have fin : Inv (mm_up (wr (mm_up (mm_up (mm_up (wr (mm_up (mm_up (mm_up I 4 h' 0 (nI 2)) 1 (h' + 4) 0 s) 1 (h' + 4) 1 (nI z)) 25 (h' + 4) 0 24 (fun k => I 25 j k)) 68 0 h' (nI 2)) 64 0 (4 + h') s) 65 0 (4 + h') (nI z)) 66 0 (24 * (4 + h')) 24 (fun k => I 66 0 (24 * j + k))) 70 0 h' (nI 0)) := by
      refine Inv_hut hI (fun k i j q => by simp (disch := omega) only [up_F, wr_F]) (fun c hc => ?_) (fun h hh => ?_)
      · by_cases w : c = 4 + h'
        · subst w
          refine ⟨s, z, q, q1, q2, q3, ⟨?_, ?_, fun k hk => ?_⟩, ⟨?_, ?_, fun k hk => ?_⟩⟩
          · simp (disch := omega) only [up_F, wr_F, up_T]
          · simp (disch := omega) only [up_F, wr_F, up_T]
          · simp (disch := omega) only [up_F, wr_F, wr_T]
            exact qC.2.2 k hk
          · simp (disch := omega) only [up_F, wr_F, up_T]
          · simp (disch := omega) only [up_F, wr_F, up_T]
          · rw [up_F (by omega), wr_T (by omega), show 24 * (4 + h') + k - 24 * (4 + h') = k by omega]
            exact qM.2.2 k hk
        · refine CM_eq (cm c hc) (fun j => ?_) (fun k hk => ?_) ?_ ?_ (fun k hk => ?_) <;> simp (disch := omega) only [up_F, wr_F]
      · by_cases w : h = h'
        · subst w
          exact ⟨2, by omega, by simp (disch := omega) only [up_F, wr_F, up_T], by simp (disch := omega) only [up_F, wr_F, up_T], fun q => by omega, fun q => by omega⟩
        · refine HT_eq (hht h hh) (fun j => ?_) ?_ (fun j => ?_) (fun j hj => ?_) ?_ <;> simp (disch := omega) only [up_F, wr_F]
    generalize wr (mm_up (mm_up (mm_up I 4 h' 0 (nI 2)) 1 (h' + 4) 0 s) 1 (h' + 4) 1 (nI z)) 25 (h' + 4) 0 24 (fun k => I 25 j k) = W at *
    have m0 : Sn (d + 200) q_M_lay [.inr (12, 0), .inl (nI h'), .inl (nI 2), .inl (nI j)] W = Rn (d + 199) q_M_lay 22 [some (.inr (12, 0)), some (.inl (nI h')), some (.inl (nI 2)), some (.inl (nI j)), some (.inl (nI o)), some (.inl (nI 0))] [] (mm_up (mm_up (mm_up W 68 0 h' (nI 2)) 64 0 (4 + h') s) 65 0 (4 + h') (nI z)) := by
      simp (disch := omega) only [n_M_lay, e_M_lay_0, e_M_lay_1, e_M_lay_2, e_M_lay_3, e_M_lay_4, e_M_lay_7, e_M_lay_8, e_M_lay_9, e_M_lay_11, e_M_lay_12, e_M_lay_14, e_M_lay_20, e_M_lay_21, n_M_isHut, e_M_isHut_0, e_M_isHut_1, n_M_isCounter, e_M_isCounter_0, e_M_isCounter_1, s_M_in, lit, nad, nml, bd_s, ct_s, ct_n, a11, a01, aB2, bitA, nlt, nle, neq, dlT, dlF, deT, deF, dqT, dqF, nN, inb, nsb, ndv, nrm, if_true, if_false, ite_true, ite_false, true_and, and_true, and_self, and_false, false_and, or_true, true_or, or_false, false_or, or_self, ↓reduceIte, eq_self, Nat.reduceAdd, Nat.reduceMul, Nat.reduceSub, Nat.reduceDiv, Nat.reduceMod, Nat.zero_add, Nat.mul_zero, not_true_eq_false, not_false_eq_true, up_T, up_F, wr_T, wr_F, ngE, ngE', ngL, ngL', ngQ, ngQ', x3, x7, x8, hs, h2]
    have m1 : Rn (d + 199) q_M_lay 22 [some (.inr (12, 0)), some (.inl (nI h')), some (.inl (nI 2)), some (.inl (nI j)), some (.inl (nI o)), some (.inl (nI 0))] [] (mm_up (mm_up (mm_up W 68 0 h' (nI 2)) 64 0 (4 + h') s) 65 0 (4 + h') (nI z)) = some (some (.inl (nI o)), (sh0, mm_up (wr (mm_up (mm_up (mm_up W 68 0 h' (nI 2)) 64 0 (4 + h') s) 65 0 (4 + h') (nI z)) 66 0 (24 * (4 + h')) 24 (fun k => I 66 0 (24 * j + k))) 70 0 h' (nI 0))) := by
      refine lpX (n := 24) (σ := mm_I) (fun i t => Rn (d + 199) q_M_lay 22 [some (.inr (12, 0)), some (.inl (nI h')), some (.inl (nI 2)), some (.inl (nI j)), some (.inl (nI o)), some (.inl (nI i))] [] t) (fun i t => t = wr (mm_up (mm_up (mm_up W 68 0 h' (nI 2)) 64 0 (4 + h') s) 65 0 (4 + h') (nI z)) 66 0 (24 * (4 + h')) i (fun k => I 66 0 (24 * j + k))) (fun r => r = _) (fun i t hi hV => Or.inr ⟨mm_up t 66 0 (24 * (4 + h') + i) (I 66 0 (24 * j + i)), by
        rw [hV]
        exact wr_s _ 66 0 (24 * (4 + h')) i (fun k => I 66 0 (24 * j + k)), by
          have : t 66 0 (24 * j + i) = I 66 0 (24 * j + i) := by rw [hV, wr_F (by omega), up_F (by omega), up_F (by omega), up_F (by omega)]; exact e66 _
          simp (disch := omega) only [e_M_lay_23, e_M_lay_22 (x5 := nI i), lit, nad, nml, bd_s, ct_s, ct_n, a11, a01, aB2, bitA, nlt, nle, neq, dlT, dlF, deT, deF, dqT, dqF, nN, inb, nsb, ndv, nrm, if_true, if_false, ite_true, ite_false, true_and, and_true, and_self, and_false, false_and, or_true, true_or, or_false, false_or, or_self, ↓reduceIte, eq_self, Nat.reduceAdd, Nat.reduceMul, Nat.reduceSub, Nat.reduceDiv, Nat.reduceMod, Nat.zero_add, Nat.mul_zero, not_true_eq_false, not_false_eq_true, up_T, up_F, wr_T, wr_F, ngE, ngE', ngL, ngL', ngQ, ngQ', this]⟩) (fun t hV => by
          rw [hV]
          simp (disch := omega) only [e_M_lay_22, e_M_lay_24, e_M_lay_26, e_M_lay_27, lit, nad, nml, bd_s, ct_s, ct_n, a11, a01, aB2, bitA, nlt, nle, neq, dlT, dlF, deT, deF, dqT, dqF, nN, inb, nsb, ndv, nrm, if_true, if_false, ite_true, ite_false, true_and, and_true, and_self, and_false, false_and, or_true, true_or, or_false, false_or, or_self, ↓reduceIte, eq_self, Nat.reduceAdd, Nat.reduceMul, Nat.reduceSub, Nat.reduceDiv, Nat.reduceMod, Nat.zero_add, Nat.mul_zero, not_true_eq_false, not_false_eq_true, up_T, up_F, wr_T, wr_F, ngE, ngE', ngL, ngL', ngQ, ngQ']) 0 _ (Nat.zero_le _) (wr_0 _ _ _ _ _).symm
    exact ⟨nI o, W, _, hH, m0.trans m1, fin⟩
  · have hH : Sn (d + 200) q_H_lay [.inr (11, 0), .inl (nI h'), .inl (nI 3), .inl k] I = some (some (.inl (nI o)), (sh0, mm_up (mm_up I 4 h' 0 (nI 3)) 4 h' 3 k)) := by
      simp (disch := omega) only [n_H_lay, e_H_lay_0, e_H_lay_1, e_H_lay_2, e_H_lay_3, e_H_lay_5, e_H_lay_9, e_H_lay_13, e_H_lay_16, e_H_lay_18, e_H_lay_20, e_H_lay_21, e_H_lay_22, n_H_isHut, e_H_isHut_0, e_H_isHut_1, s_H_within, lit, nad, nml, bd_s, ct_s, ct_n, a11, a01, aB2, bitA, nlt, nle, neq, dlT, dlF, deT, deF, dqT, dqF, nN, inb, nsb, ndv, nrm, if_true, if_false, ite_true, ite_false, true_and, and_true, and_self, and_false, false_and, or_true, true_or, or_false, false_or, or_self, ↓reduceIte, eq_self, Nat.reduceAdd, Nat.reduceMul, Nat.reduceSub, Nat.reduceDiv, Nat.reduceMod, Nat.zero_add, Nat.mul_zero, not_true_eq_false, not_false_eq_true, up_T, up_F, wr_T, wr_F, ngE, ngE', ngL, ngL', ngQ, ngQ', o2]
    have hM : Sn (d + 200) q_M_lay [.inr (12, 0), .inl (nI h'), .inl (nI 3), .inl k] (mm_up (mm_up I 4 h' 0 (nI 3)) 4 h' 3 k) = some (some (.inl (nI o)), (sh0, mm_up (mm_up (mm_up (mm_up I 4 h' 0 (nI 3)) 4 h' 3 k) 68 0 h' (nI 3)) 70 0 h' k)) := by
      simp (disch := omega) only [n_M_lay, e_M_lay_0, e_M_lay_1, e_M_lay_2, e_M_lay_3, e_M_lay_4, e_M_lay_7, e_M_lay_11, e_M_lay_14, e_M_lay_20, e_M_lay_24, e_M_lay_25, e_M_lay_27, n_M_isHut, e_M_isHut_0, e_M_isHut_1, s_M_in, lit, nad, nml, bd_s, ct_s, ct_n, a11, a01, aB2, bitA, nlt, nle, neq, dlT, dlF, deT, deF, dqT, dqF, nN, inb, nsb, ndv, nrm, if_true, if_false, ite_true, ite_false, true_and, and_true, and_self, and_false, false_and, or_true, true_or, or_false, false_or, or_self, ↓reduceIte, eq_self, Nat.reduceAdd, Nat.reduceMul, Nat.reduceSub, Nat.reduceDiv, Nat.reduceMod, Nat.zero_add, Nat.mul_zero, not_true_eq_false, not_false_eq_true, up_T, up_F, wr_T, wr_F, ngE, ngE', ngL, ngL', ngQ, ngQ', o3]
    refine ⟨nI o, _, _, hH, hM, Inv_hut hI (fun k i j q => by simp (disch := omega) only [up_F]) (fun c hc => CM_eq (cm c hc) (fun j => ?_) (fun k hk => ?_) ?_ ?_ (fun k hk => ?_)) (fun h hh => ?_)⟩
    · simp (disch := omega) only [up_F]
    · simp (disch := omega) only [up_F]
    · simp (disch := omega) only [up_F]
    · simp (disch := omega) only [up_F]
    · simp (disch := omega) only [up_F]
    · by_cases w : h = h'
      · subst w
        exact ⟨3, by omega, by simp (disch := omega) only [up_F, up_T], by simp (disch := omega) only [up_F, up_T], fun q => by omega, fun q => by simp (disch := omega) only [up_F, up_T]⟩
      · refine HT_eq (hht h hh) (fun j => ?_) ?_ (fun j => ?_) (fun j hj => ?_) ?_ <;> simp (disch := omega) only [up_F]
theorem s_M_whyNot (d h t o : Nat) (I : mm_I) (hh : h ≤ 4) (ho : I 68 0 h = nI o) (hob : o ≤ 3) (ht : t ≤ 3) (ht0 : t ≠ 0) : Sn (d + 3) q_M_whyNot [.inr (12, 0), .inl (nI h), .inl (nI t)] I = some (some (.inl (if o = 0 then -nI 1000000011 else if o = t then nI 0 else -nI 1000000012)), (sh0, I)) := by
  by_cases e : o = 0
  · simp (disch := omega) only [n_M_whyNot, e_M_whyNot_0, e_M_whyNot_1, e_M_whyNot_2, e_M_whyNot_3, e_M_whyNot_4, e_M_whyNot_5, e_M_whyNot_6, e_M_whyNot_7, e_M_whyNot_8, n_M_isHut, e_M_isHut_0, e_M_isHut_1, s_M_in, lit, nad, nml, bd_s, ct_s, ct_n, a11, a01, aB2, bitA, nlt, nle, neq, dlT, dlF, deT, deF, dqT, dqF, nN, inb, nsb, ndv, nrm, if_true, if_false, ite_true, ite_false, true_and, and_true, and_self, and_false, false_and, or_true, true_or, or_false, false_or, or_self, ↓reduceIte, eq_self, Nat.reduceAdd, Nat.reduceMul, Nat.reduceSub, Nat.reduceDiv, Nat.reduceMod, Nat.zero_add, Nat.mul_zero, not_true_eq_false, not_false_eq_true, up_T, up_F, wr_T, wr_F, ngE, ngE', ngL, ngL', ngQ, ngQ', ho]
  · by_cases e2 : o = t
    · simp (disch := omega) only [n_M_whyNot, e_M_whyNot_0, e_M_whyNot_1, e_M_whyNot_2, e_M_whyNot_3, e_M_whyNot_4, e_M_whyNot_5, e_M_whyNot_6, e_M_whyNot_7, e_M_whyNot_8, n_M_isHut, e_M_isHut_0, e_M_isHut_1, s_M_in, lit, nad, nml, bd_s, ct_s, ct_n, a11, a01, aB2, bitA, nlt, nle, neq, dlT, dlF, deT, deF, dqT, dqF, nN, inb, nsb, ndv, nrm, if_true, if_false, ite_true, ite_false, true_and, and_true, and_self, and_false, false_and, or_true, true_or, or_false, false_or, or_self, ↓reduceIte, eq_self, Nat.reduceAdd, Nat.reduceMul, Nat.reduceSub, Nat.reduceDiv, Nat.reduceMod, Nat.zero_add, Nat.mul_zero, not_true_eq_false, not_false_eq_true, up_T, up_F, wr_T, wr_F, ngE, ngE', ngL, ngL', ngQ, ngQ', ho]
    · simp (disch := omega) only [n_M_whyNot, e_M_whyNot_0, e_M_whyNot_1, e_M_whyNot_2, e_M_whyNot_3, e_M_whyNot_4, e_M_whyNot_5, e_M_whyNot_6, e_M_whyNot_7, e_M_whyNot_8, n_M_isHut, e_M_isHut_0, e_M_isHut_1, s_M_in, lit, nad, nml, bd_s, ct_s, ct_n, a11, a01, aB2, bitA, nlt, nle, neq, dlT, dlF, deT, deF, dqT, dqF, nN, inb, nsb, ndv, nrm, if_true, if_false, ite_true, ite_false, true_and, and_true, and_self, and_false, false_and, or_true, true_or, or_false, false_or, or_self, ↓reduceIte, eq_self, Nat.reduceAdd, Nat.reduceMul, Nat.reduceSub, Nat.reduceDiv, Nat.reduceMod, Nat.zero_add, Nat.mul_zero, not_true_eq_false, not_false_eq_true, up_T, up_F, wr_T, wr_F, ngE, ngE', ngL, ngL', ngQ, ngQ', ho]
theorem s_M_whyNotN (d : Nat) (h t : Int32) (I : mm_I) (hh : ¬ (nI 0 ≤ h ∧ h ≤ nI 4)) : Sn (d + 3) q_M_whyNot [.inr (12, 0), .inl h, .inl t] I = some (some (.inl (-nI 1000000001)), (sh0, I)) := by
  simp (disch := omega) only [n_M_whyNot, e_M_whyNot_0, e_M_whyNot_1, e_M_whyNot_2, e_M_whyNot_3, e_M_whyNot_4, e_M_whyNot_5, e_M_whyNot_6, e_M_whyNot_7, e_M_whyNot_8, n_M_isHut, e_M_isHut_0, e_M_isHut_1, s_M_in, lit, nad, nml, bd_s, ct_s, ct_n, a11, a01, aB2, bitA, nlt, nle, neq, dlT, dlF, deT, deF, dqT, dqF, nN, inb, nsb, ndv, nrm, if_true, if_false, ite_true, ite_false, true_and, and_true, and_self, and_false, false_and, or_true, true_or, or_false, false_or, or_self, ↓reduceIte, eq_self, Nat.reduceAdd, Nat.reduceMul, Nat.reduceSub, Nat.reduceDiv, Nat.reduceMod, Nat.zero_add, Nat.mul_zero, not_true_eq_false, not_false_eq_true, up_T, up_F, wr_T, wr_F, ngE, ngE', ngL, ngL', ngQ, ngQ', hh]
theorem n11 : (-nI 1000000011 = nI 0) = False := ngE' (by decide) (by decide) (by decide)
theorem n12 : (-nI 1000000012 = nI 0) = False := ngE' (by decide) (by decide) (by decide)
theorem n01 : (-nI 1000000001 = nI 0) = False := ngE' (by decide) (by decide) (by decide)
theorem Ok_parts (d : Nat) (h k : Int32) : Ok (d + 200) q_H_parts q_M_parts [.inl h, .inl k] := by
  intro I hI
  by_cases h1 : nI 0 ≤ h ∧ h ≤ nI 4
  rotate_left
  · refine ⟨-nI 1000000001, I, I, ?_, ?_, hI⟩
    · simp (disch := omega) only [n_H_parts, e_H_parts_0, e_H_parts_1, e_H_parts_2, e_H_parts_3, e_H_parts_4, e_H_parts_5, e_H_parts_6, e_H_parts_7, e_H_parts_8, e_H_parts_9, n_H_isHut, e_H_isHut_0, e_H_isHut_1, s_H_within, lit, nad, nml, bd_s, ct_s, ct_n, a11, a01, aB2, bitA, nlt, nle, neq, dlT, dlF, deT, deF, dqT, dqF, nN, inb, nsb, ndv, nrm, if_true, if_false, ite_true, ite_false, true_and, and_true, and_self, and_false, false_and, or_true, true_or, or_false, false_or, or_self, ↓reduceIte, eq_self, Nat.reduceAdd, Nat.reduceMul, Nat.reduceSub, Nat.reduceDiv, Nat.reduceMod, Nat.zero_add, Nat.mul_zero, not_true_eq_false, not_false_eq_true, up_T, up_F, wr_T, wr_F, ngE, ngE', ngL, ngL', ngQ, ngQ', h1]
    · simp (disch := omega) only [n_M_parts, e_M_parts_0, e_M_parts_1, e_M_parts_2, e_M_parts_3, e_M_parts_4, e_M_parts_5, e_M_parts_6, lit, nad, nml, bd_s, ct_s, ct_n, a11, a01, aB2, bitA, nlt, nle, neq, dlT, dlF, deT, deF, dqT, dqF, nN, inb, nsb, ndv, nrm, if_true, if_false, ite_true, ite_false, true_and, and_true, and_self, and_false, false_and, or_true, true_or, or_false, false_or, or_self, ↓reduceIte, eq_self, Nat.reduceAdd, Nat.reduceMul, Nat.reduceSub, Nat.reduceDiv, Nat.reduceMod, Nat.zero_add, Nat.mul_zero, not_true_eq_false, not_false_eq_true, up_T, up_F, wr_T, wr_F, ngE, ngE', ngL, ngL', ngQ, ngQ', s_M_whyNotN _ _ _ _ h1]
  obtain ⟨h', -, c1, c2⟩ := wof h1 (by decide) (by decide)
  subst c2
  obtain ⟨o, o1, o2, o3, -, o5⟩ := hI.1.2.2.2.2.1 h' (by omega)
  have wn := s_M_whyNot (d + 196) h' 3 o I c1 o3 o1 (by decide) (by decide)
  by_cases e : o = 0
  · rw [if_pos e] at wn
    refine ⟨-nI 1000000011, I, I, ?_, ?_, hI⟩
    · simp (disch := omega) only [n_H_parts, e_H_parts_0, e_H_parts_1, e_H_parts_2, e_H_parts_3, e_H_parts_4, e_H_parts_5, e_H_parts_6, e_H_parts_7, e_H_parts_8, e_H_parts_9, n_H_isHut, e_H_isHut_0, e_H_isHut_1, s_H_within, lit, nad, nml, bd_s, ct_s, ct_n, a11, a01, aB2, bitA, nlt, nle, neq, dlT, dlF, deT, deF, dqT, dqF, nN, inb, nsb, ndv, nrm, if_true, if_false, ite_true, ite_false, true_and, and_true, and_self, and_false, false_and, or_true, true_or, or_false, false_or, or_self, ↓reduceIte, eq_self, Nat.reduceAdd, Nat.reduceMul, Nat.reduceSub, Nat.reduceDiv, Nat.reduceMod, Nat.zero_add, Nat.mul_zero, not_true_eq_false, not_false_eq_true, up_T, up_F, wr_T, wr_F, ngE, ngE', ngL, ngL', ngQ, ngQ', o2]
    · simp (disch := omega) only [n_M_parts, e_M_parts_0, e_M_parts_1, e_M_parts_2, e_M_parts_3, e_M_parts_4, e_M_parts_5, e_M_parts_6, lit, nad, nml, bd_s, ct_s, ct_n, a11, a01, aB2, bitA, nlt, nle, neq, dlT, dlF, deT, deF, dqT, dqF, nN, inb, nsb, ndv, nrm, if_true, if_false, ite_true, ite_false, true_and, and_true, and_self, and_false, false_and, or_true, true_or, or_false, false_or, or_self, ↓reduceIte, eq_self, Nat.reduceAdd, Nat.reduceMul, Nat.reduceSub, Nat.reduceDiv, Nat.reduceMod, Nat.zero_add, Nat.mul_zero, not_true_eq_false, not_false_eq_true, up_T, up_F, wr_T, wr_F, ngE, ngE', ngL, ngL', ngQ, ngQ', wn]
  rw [if_neg e] at wn
  by_cases e2 : o = 3
  · rw [if_pos e2] at wn
    have o5' := o5 e2
    by_cases k0 : k = nI 0
    · refine ⟨-nI 1000000002, I, I, ?_, ?_, hI⟩
      · simp (disch := omega) only [n_H_parts, e_H_parts_0, e_H_parts_1, e_H_parts_2, e_H_parts_3, e_H_parts_4, e_H_parts_5, e_H_parts_6, e_H_parts_7, e_H_parts_8, e_H_parts_9, n_H_isHut, e_H_isHut_0, e_H_isHut_1, s_H_within, lit, nad, nml, bd_s, ct_s, ct_n, a11, a01, aB2, bitA, nlt, nle, neq, dlT, dlF, deT, deF, dqT, dqF, nN, inb, nsb, ndv, nrm, if_true, if_false, ite_true, ite_false, true_and, and_true, and_self, and_false, false_and, or_true, true_or, or_false, false_or, or_self, ↓reduceIte, eq_self, Nat.reduceAdd, Nat.reduceMul, Nat.reduceSub, Nat.reduceDiv, Nat.reduceMod, Nat.zero_add, Nat.mul_zero, not_true_eq_false, not_false_eq_true, up_T, up_F, wr_T, wr_F, ngE, ngE', ngL, ngL', ngQ, ngQ', o2, k0]
      · simp (disch := omega) only [n_M_parts, e_M_parts_0, e_M_parts_1, e_M_parts_2, e_M_parts_3, e_M_parts_4, e_M_parts_5, e_M_parts_6, lit, nad, nml, bd_s, ct_s, ct_n, a11, a01, aB2, bitA, nlt, nle, neq, dlT, dlF, deT, deF, dqT, dqF, nN, inb, nsb, ndv, nrm, if_true, if_false, ite_true, ite_false, true_and, and_true, and_self, and_false, false_and, or_true, true_or, or_false, false_or, or_self, ↓reduceIte, eq_self, Nat.reduceAdd, Nat.reduceMul, Nat.reduceSub, Nat.reduceDiv, Nat.reduceMod, Nat.zero_add, Nat.mul_zero, not_true_eq_false, not_false_eq_true, up_T, up_F, wr_T, wr_F, ngE, ngE', ngL, ngL', ngQ, ngQ', wn, k0]
    · refine ⟨I 4 h' 3 / k, I, I, ?_, ?_, hI⟩
      · simp (disch := omega) only [n_H_parts, e_H_parts_0, e_H_parts_1, e_H_parts_2, e_H_parts_3, e_H_parts_4, e_H_parts_5, e_H_parts_6, e_H_parts_7, e_H_parts_8, e_H_parts_9, n_H_isHut, e_H_isHut_0, e_H_isHut_1, s_H_within, lit, nad, nml, bd_s, ct_s, ct_n, a11, a01, aB2, bitA, nlt, nle, neq, dlT, dlF, deT, deF, dqT, dqF, nN, inb, nsb, ndv, nrm, if_true, if_false, ite_true, ite_false, true_and, and_true, and_self, and_false, false_and, or_true, true_or, or_false, false_or, or_self, ↓reduceIte, eq_self, Nat.reduceAdd, Nat.reduceMul, Nat.reduceSub, Nat.reduceDiv, Nat.reduceMod, Nat.zero_add, Nat.mul_zero, not_true_eq_false, not_false_eq_true, up_T, up_F, wr_T, wr_F, ngE, ngE', ngL, ngL', ngQ, ngQ', o2, k0]
      · simp (disch := omega) only [n_M_parts, e_M_parts_0, e_M_parts_1, e_M_parts_2, e_M_parts_3, e_M_parts_4, e_M_parts_5, e_M_parts_6, lit, nad, nml, bd_s, ct_s, ct_n, a11, a01, aB2, bitA, nlt, nle, neq, dlT, dlF, deT, deF, dqT, dqF, nN, inb, nsb, ndv, nrm, if_true, if_false, ite_true, ite_false, true_and, and_true, and_self, and_false, false_and, or_true, true_or, or_false, false_or, or_self, ↓reduceIte, eq_self, Nat.reduceAdd, Nat.reduceMul, Nat.reduceSub, Nat.reduceDiv, Nat.reduceMod, Nat.zero_add, Nat.mul_zero, not_true_eq_false, not_false_eq_true, up_T, up_F, wr_T, wr_F, ngE, ngE', ngL, ngL', ngQ, ngQ', wn, k0, o5']
  · rw [if_neg e2] at wn
    refine ⟨-nI 1000000012, I, I, ?_, ?_, hI⟩
    · simp (disch := omega) only [n_H_parts, e_H_parts_0, e_H_parts_1, e_H_parts_2, e_H_parts_3, e_H_parts_4, e_H_parts_5, e_H_parts_6, e_H_parts_7, e_H_parts_8, e_H_parts_9, n_H_isHut, e_H_isHut_0, e_H_isHut_1, s_H_within, lit, nad, nml, bd_s, ct_s, ct_n, a11, a01, aB2, bitA, nlt, nle, neq, dlT, dlF, deT, deF, dqT, dqF, nN, inb, nsb, ndv, nrm, if_true, if_false, ite_true, ite_false, true_and, and_true, and_self, and_false, false_and, or_true, true_or, or_false, false_or, or_self, ↓reduceIte, eq_self, Nat.reduceAdd, Nat.reduceMul, Nat.reduceSub, Nat.reduceDiv, Nat.reduceMod, Nat.zero_add, Nat.mul_zero, not_true_eq_false, not_false_eq_true, up_T, up_F, wr_T, wr_F, ngE, ngE', ngL, ngL', ngQ, ngQ', o2]
    · simp (disch := omega) only [n_M_parts, e_M_parts_0, e_M_parts_1, e_M_parts_2, e_M_parts_3, e_M_parts_4, e_M_parts_5, e_M_parts_6, lit, nad, nml, bd_s, ct_s, ct_n, a11, a01, aB2, bitA, nlt, nle, neq, dlT, dlF, deT, deF, dqT, dqF, nN, inb, nsb, ndv, nrm, if_true, if_false, ite_true, ite_false, true_and, and_true, and_self, and_false, false_and, or_true, true_or, or_false, false_or, or_self, ↓reduceIte, eq_self, Nat.reduceAdd, Nat.reduceMul, Nat.reduceSub, Nat.reduceDiv, Nat.reduceMod, Nat.zero_add, Nat.mul_zero, not_true_eq_false, not_false_eq_true, up_T, up_F, wr_T, wr_F, ngE, ngE', ngL, ngL', ngQ, ngQ', wn]
theorem Ok_gaps (d : Nat) (h : Int32) : Ok (d + 200) q_H_gaps q_M_gaps [.inl h] := by
  intro I hI
  by_cases h1 : nI 0 ≤ h ∧ h ≤ nI 4
  rotate_left
  · refine ⟨-nI 1000000001, I, I, ?_, ?_, hI⟩
    · simp (disch := omega) only [n_H_gaps, e_H_gaps_0, e_H_gaps_1, e_H_gaps_2, e_H_gaps_3, e_H_gaps_4, e_H_gaps_5, e_H_gaps_6, e_H_gaps_7, e_H_gaps_8, e_H_gaps_9, n_H_isHut, e_H_isHut_0, e_H_isHut_1, s_H_within, lit, nad, nml, bd_s, ct_s, ct_n, a11, a01, aB2, bitA, nlt, nle, neq, dlT, dlF, deT, deF, dqT, dqF, nN, inb, nsb, ndv, nrm, if_true, if_false, ite_true, ite_false, true_and, and_true, and_self, and_false, false_and, or_true, true_or, or_false, false_or, or_self, ↓reduceIte, eq_self, Nat.reduceAdd, Nat.reduceMul, Nat.reduceSub, Nat.reduceDiv, Nat.reduceMod, Nat.zero_add, Nat.mul_zero, not_true_eq_false, not_false_eq_true, up_T, up_F, wr_T, wr_F, ngE, ngE', ngL, ngL', ngQ, ngQ', h1]
    · simp (disch := omega) only [n_M_gaps, e_M_gaps_0, e_M_gaps_1, e_M_gaps_2, lit, nad, nml, bd_s, ct_s, ct_n, a11, a01, aB2, bitA, nlt, nle, neq, dlT, dlF, deT, deF, dqT, dqF, nN, inb, nsb, ndv, nrm, if_true, if_false, ite_true, ite_false, true_and, and_true, and_self, and_false, false_and, or_true, true_or, or_false, false_or, or_self, ↓reduceIte, eq_self, Nat.reduceAdd, Nat.reduceMul, Nat.reduceSub, Nat.reduceDiv, Nat.reduceMod, Nat.zero_add, Nat.mul_zero, not_true_eq_false, not_false_eq_true, up_T, up_F, wr_T, wr_F, ngE, ngE', ngL, ngL', ngQ, ngQ', s_M_whyNotN _ _ _ _ h1]
  obtain ⟨h', -, c1, c2⟩ := wof h1 (by decide) (by decide)
  subst c2
  obtain ⟨o, o1, o2, o3, -, -⟩ := hI.1.2.2.2.2.1 h' (by omega)
  have wn := s_M_whyNot (d + 196) h' 2 o I c1 o3 o1 (by decide) (by decide)
  by_cases e : o = 0
  · rw [if_pos e] at wn
    refine ⟨-nI 1000000011, I, I, ?_, ?_, hI⟩
    · simp (disch := omega) only [n_H_gaps, e_H_gaps_0, e_H_gaps_1, e_H_gaps_2, e_H_gaps_3, e_H_gaps_4, e_H_gaps_5, e_H_gaps_6, e_H_gaps_7, e_H_gaps_8, e_H_gaps_9, n_H_isHut, e_H_isHut_0, e_H_isHut_1, s_H_within, lit, nad, nml, bd_s, ct_s, ct_n, a11, a01, aB2, bitA, nlt, nle, neq, dlT, dlF, deT, deF, dqT, dqF, nN, inb, nsb, ndv, nrm, if_true, if_false, ite_true, ite_false, true_and, and_true, and_self, and_false, false_and, or_true, true_or, or_false, false_or, or_self, ↓reduceIte, eq_self, Nat.reduceAdd, Nat.reduceMul, Nat.reduceSub, Nat.reduceDiv, Nat.reduceMod, Nat.zero_add, Nat.mul_zero, not_true_eq_false, not_false_eq_true, up_T, up_F, wr_T, wr_F, ngE, ngE', ngL, ngL', ngQ, ngQ', o2]
    · simp (disch := omega) only [n_M_gaps, e_M_gaps_0, e_M_gaps_1, e_M_gaps_2, lit, nad, nml, bd_s, ct_s, ct_n, a11, a01, aB2, bitA, nlt, nle, neq, dlT, dlF, deT, deF, dqT, dqF, nN, inb, nsb, ndv, nrm, if_true, if_false, ite_true, ite_false, true_and, and_true, and_self, and_false, false_and, or_true, true_or, or_false, false_or, or_self, ↓reduceIte, eq_self, Nat.reduceAdd, Nat.reduceMul, Nat.reduceSub, Nat.reduceDiv, Nat.reduceMod, Nat.zero_add, Nat.mul_zero, not_true_eq_false, not_false_eq_true, up_T, up_F, wr_T, wr_F, ngE, ngE', ngL, ngL', ngQ, ngQ', wn]
  rw [if_neg e] at wn
  by_cases e2 : o = 2
  rotate_left
  · rw [if_neg e2] at wn
    refine ⟨-nI 1000000012, I, I, ?_, ?_, hI⟩
    · simp (disch := omega) only [n_H_gaps, e_H_gaps_0, e_H_gaps_1, e_H_gaps_2, e_H_gaps_3, e_H_gaps_4, e_H_gaps_5, e_H_gaps_6, e_H_gaps_7, e_H_gaps_8, e_H_gaps_9, n_H_isHut, e_H_isHut_0, e_H_isHut_1, s_H_within, lit, nad, nml, bd_s, ct_s, ct_n, a11, a01, aB2, bitA, nlt, nle, neq, dlT, dlF, deT, deF, dqT, dqF, nN, inb, nsb, ndv, nrm, if_true, if_false, ite_true, ite_false, true_and, and_true, and_self, and_false, false_and, or_true, true_or, or_false, false_or, or_self, ↓reduceIte, eq_self, Nat.reduceAdd, Nat.reduceMul, Nat.reduceSub, Nat.reduceDiv, Nat.reduceMod, Nat.zero_add, Nat.mul_zero, not_true_eq_false, not_false_eq_true, up_T, up_F, wr_T, wr_F, ngE, ngE', ngL, ngL', ngQ, ngQ', o2]
    · simp (disch := omega) only [n_M_gaps, e_M_gaps_0, e_M_gaps_1, e_M_gaps_2, lit, nad, nml, bd_s, ct_s, ct_n, a11, a01, aB2, bitA, nlt, nle, neq, dlT, dlF, deT, deF, dqT, dqF, nN, inb, nsb, ndv, nrm, if_true, if_false, ite_true, ite_false, true_and, and_true, and_self, and_false, false_and, or_true, true_or, or_false, false_or, or_self, ↓reduceIte, eq_self, Nat.reduceAdd, Nat.reduceMul, Nat.reduceSub, Nat.reduceDiv, Nat.reduceMod, Nat.zero_add, Nat.mul_zero, not_true_eq_false, not_false_eq_true, up_T, up_F, wr_T, wr_F, ngE, ngE', ngL, ngL', ngQ, ngQ', wn]
  rw [if_pos e2] at wn
  obtain ⟨s, z, q, q1, q2, q3, hC, hM⟩ := Cnt_iff.mp hI.1.2.2.2.1 (4 + h') (by omega)
  have hC' : CR I (h' + 4) s z q := by rw [Nat.add_comm]; exact hC
  have gC := s_gapCount (d + 198) (h' + 4) z s q I hC' q2 q3
  obtain ⟨q7, q8, q9⟩ := hM
  refine ⟨nI (gpN q z), I, I, ?_, ?_, hI⟩
  · simp (disch := omega) only [n_H_gaps, e_H_gaps_0, e_H_gaps_1, e_H_gaps_2, e_H_gaps_3, e_H_gaps_4, e_H_gaps_5, e_H_gaps_6, e_H_gaps_7, e_H_gaps_8, e_H_gaps_9, n_H_isHut, e_H_isHut_0, e_H_isHut_1, s_H_within, lit, nad, nml, bd_s, ct_s, ct_n, a11, a01, aB2, bitA, nlt, nle, neq, dlT, dlF, deT, deF, dqT, dqF, nN, inb, nsb, ndv, nrm, if_true, if_false, ite_true, ite_false, true_and, and_true, and_self, and_false, false_and, or_true, true_or, or_false, false_or, or_self, ↓reduceIte, eq_self, Nat.reduceAdd, Nat.reduceMul, Nat.reduceSub, Nat.reduceDiv, Nat.reduceMod, Nat.zero_add, Nat.mul_zero, not_true_eq_false, not_false_eq_true, up_T, up_F, wr_T, wr_F, ngE, ngE', ngL, ngL', ngQ, ngQ', o2, gC]
  · have m0 : Sn (d + 200) q_M_gaps [.inr (12, 0), .inl (nI h')] I = Rn (d + 199) q_M_gaps 4 [some (.inr (12, 0)), some (.inl (nI h')), some (.inl (nI 0)), some (.inl (nI 0)), some (.inl (nI 0))] [] I := by
      simp (disch := omega) only [n_M_gaps, e_M_gaps_0, e_M_gaps_1, e_M_gaps_3, lit, nad, nml, bd_s, ct_s, ct_n, a11, a01, aB2, bitA, nlt, nle, neq, dlT, dlF, deT, deF, dqT, dqF, nN, inb, nsb, ndv, nrm, if_true, if_false, ite_true, ite_false, true_and, and_true, and_self, and_false, false_and, or_true, true_or, or_false, false_or, or_self, ↓reduceIte, eq_self, Nat.reduceAdd, Nat.reduceMul, Nat.reduceSub, Nat.reduceDiv, Nat.reduceMod, Nat.zero_add, Nat.mul_zero, not_true_eq_false, not_false_eq_true, up_T, up_F, wr_T, wr_F, ngE, ngE', ngL, ngL', ngQ, ngQ', wn]
    rw [m0]
    refine lpX (n := z) (σ := Nat) (fun i t => Rn (d + 199) q_M_gaps 4 [some (.inr (12, 0)), some (.inl (nI h')), some (.inl (nI 0)), some (.inl (nI t)), some (.inl (nI i))] [] I) (fun i t => t = gpN q i) (fun r => r = _) (fun i t hi hV => Or.inr ⟨t + (if q i = 0 then 1 else 0), by rw [hV]; rfl, by
      have e := q9 i (by omega)
      have pl := pvL (q3 i (by omega))
      by_cases w : q i = 0 <;> simp (disch := omega) only [e_M_gaps_5, e_M_gaps_6, e_M_gaps_7, e_M_gaps_8, e_M_gaps_4 (x4 := nI i), lit, nad, nml, bd_s, ct_s, ct_n, a11, a01, aB2, bitA, nlt, nle, neq, dlT, dlF, deT, deF, dqT, dqF, nN, inb, nsb, ndv, nrm, if_true, if_false, ite_true, ite_false, true_and, and_true, and_self, and_false, false_and, or_true, true_or, or_false, false_or, or_self, ↓reduceIte, eq_self, Nat.reduceAdd, Nat.reduceMul, Nat.reduceSub, Nat.reduceDiv, Nat.reduceMod, Nat.zero_add, Nat.mul_zero, not_true_eq_false, not_false_eq_true, up_T, up_F, wr_T, wr_F, ngE, ngE', ngL, ngL', ngQ, ngQ', q8, e, pl, Nat.add_zero]⟩) (fun t hV => by
        rw [hV]
        simp (disch := omega) only [e_M_gaps_4, e_M_gaps_9, lit, nad, nml, bd_s, ct_s, ct_n, a11, a01, aB2, bitA, nlt, nle, neq, dlT, dlF, deT, deF, dqT, dqF, nN, inb, nsb, ndv, nrm, if_true, if_false, ite_true, ite_false, true_and, and_true, and_self, and_false, false_and, or_true, true_or, or_false, false_or, or_self, ↓reduceIte, eq_self, Nat.reduceAdd, Nat.reduceMul, Nat.reduceSub, Nat.reduceDiv, Nat.reduceMod, Nat.zero_add, Nat.mul_zero, not_true_eq_false, not_false_eq_true, up_T, up_F, wr_T, wr_F, ngE, ngE', ngL, ngL', ngQ, ngQ', q8]) 0 0 (Nat.zero_le _) rfl
theorem Ok_ask (d : Nat) (h k : Int32) : Ok (d + 200) q_H_ask q_M_ask [.inl h, .inl k] := by
  intro I hI
  by_cases h0 : nI 0 ≤ k ∧ k ≤ nI 4
  rotate_left
  · refine ⟨-nI 1000000001, I, I, ?_, ?_, hI⟩
    · by_cases h1 : nI 0 ≤ h ∧ h ≤ nI 4 <;> simp (disch := omega) only [n_H_ask, e_H_ask_0, e_H_ask_1, e_H_ask_2, e_H_ask_3, e_H_ask_4, e_H_ask_5, e_H_ask_6, e_H_ask_7, e_H_ask_8, e_H_ask_9, e_H_ask_10, e_H_ask_11, e_H_ask_12, n_H_isHut, e_H_isHut_0, e_H_isHut_1, s_H_within, lit, nad, nml, bd_s, ct_s, ct_n, a11, a01, aB2, bitA, nlt, nle, neq, dlT, dlF, deT, deF, dqT, dqF, nN, inb, nsb, ndv, nrm, if_true, if_false, ite_true, ite_false, true_and, and_true, and_self, and_false, false_and, or_true, true_or, or_false, false_or, or_self, ↓reduceIte, eq_self, Nat.reduceAdd, Nat.reduceMul, Nat.reduceSub, Nat.reduceDiv, Nat.reduceMod, Nat.zero_add, Nat.mul_zero, not_true_eq_false, not_false_eq_true, up_T, up_F, wr_T, wr_F, ngE, ngE', ngL, ngL', ngQ, ngQ', h0, h1]
    · simp (disch := omega) only [n_M_ask, e_M_ask_0, e_M_ask_1, e_M_ask_2, e_M_ask_3, e_M_ask_4, e_M_ask_5, e_M_ask_6, e_M_ask_7, e_M_ask_8, e_M_ask_9, e_M_ask_10, e_M_ask_11, s_M_in, lit, nad, nml, bd_s, ct_s, ct_n, a11, a01, aB2, bitA, nlt, nle, neq, dlT, dlF, deT, deF, dqT, dqF, nN, inb, nsb, ndv, nrm, if_true, if_false, ite_true, ite_false, true_and, and_true, and_self, and_false, false_and, or_true, true_or, or_false, false_or, or_self, ↓reduceIte, eq_self, Nat.reduceAdd, Nat.reduceMul, Nat.reduceSub, Nat.reduceDiv, Nat.reduceMod, Nat.zero_add, Nat.mul_zero, not_true_eq_false, not_false_eq_true, up_T, up_F, wr_T, wr_F, ngE, ngE', ngL, ngL', ngQ, ngQ', h0]
  obtain ⟨k', -, k1, k2⟩ := wof h0 (by decide) (by decide)
  subst k2
  by_cases h1 : nI 0 ≤ h ∧ h ≤ nI 4
  rotate_left
  · refine ⟨-nI 1000000001, I, I, ?_, ?_, hI⟩
    · simp (disch := omega) only [n_H_ask, e_H_ask_0, e_H_ask_1, e_H_ask_2, e_H_ask_3, e_H_ask_4, e_H_ask_5, e_H_ask_6, e_H_ask_7, e_H_ask_8, e_H_ask_9, e_H_ask_10, e_H_ask_11, e_H_ask_12, n_H_isHut, e_H_isHut_0, e_H_isHut_1, s_H_within, lit, nad, nml, bd_s, ct_s, ct_n, a11, a01, aB2, bitA, nlt, nle, neq, dlT, dlF, deT, deF, dqT, dqF, nN, inb, nsb, ndv, nrm, if_true, if_false, ite_true, ite_false, true_and, and_true, and_self, and_false, false_and, or_true, true_or, or_false, false_or, or_self, ↓reduceIte, eq_self, Nat.reduceAdd, Nat.reduceMul, Nat.reduceSub, Nat.reduceDiv, Nat.reduceMod, Nat.zero_add, Nat.mul_zero, not_true_eq_false, not_false_eq_true, up_T, up_F, wr_T, wr_F, ngE, ngE', ngL, ngL', ngQ, ngQ', h1]
    · simp (disch := omega) only [n_M_ask, e_M_ask_0, e_M_ask_1, e_M_ask_2, e_M_ask_3, e_M_ask_4, e_M_ask_5, e_M_ask_6, e_M_ask_7, e_M_ask_8, e_M_ask_9, e_M_ask_10, e_M_ask_11, s_M_in, lit, nad, nml, bd_s, ct_s, ct_n, a11, a01, aB2, bitA, nlt, nle, neq, dlT, dlF, deT, deF, dqT, dqF, nN, inb, nsb, ndv, nrm, if_true, if_false, ite_true, ite_false, true_and, and_true, and_self, and_false, false_and, or_true, true_or, or_false, false_or, or_self, ↓reduceIte, eq_self, Nat.reduceAdd, Nat.reduceMul, Nat.reduceSub, Nat.reduceDiv, Nat.reduceMod, Nat.zero_add, Nat.mul_zero, not_true_eq_false, not_false_eq_true, up_T, up_F, wr_T, wr_F, ngE, ngE', ngL, ngL', ngQ, ngQ', s_M_whyNotN _ _ _ _ h1]
  obtain ⟨h', -, c1, c2⟩ := wof h1 (by decide) (by decide)
  subst c2
  obtain ⟨o, o1, o2, o3, o4, -⟩ := hI.1.2.2.2.2.1 h' (by omega)
  have wn := s_M_whyNot (d + 196) h' 1 o I c1 o3 o1 (by decide) (by decide)
  by_cases e : o = 0
  · rw [if_pos e] at wn
    refine ⟨-nI 1000000011, I, I, ?_, ?_, hI⟩
    · simp (disch := omega) only [n_H_ask, e_H_ask_0, e_H_ask_1, e_H_ask_2, e_H_ask_3, e_H_ask_4, e_H_ask_5, e_H_ask_6, e_H_ask_7, e_H_ask_8, e_H_ask_9, e_H_ask_10, e_H_ask_11, e_H_ask_12, n_H_isHut, e_H_isHut_0, e_H_isHut_1, s_H_within, lit, nad, nml, bd_s, ct_s, ct_n, a11, a01, aB2, bitA, nlt, nle, neq, dlT, dlF, deT, deF, dqT, dqF, nN, inb, nsb, ndv, nrm, if_true, if_false, ite_true, ite_false, true_and, and_true, and_self, and_false, false_and, or_true, true_or, or_false, false_or, or_self, ↓reduceIte, eq_self, Nat.reduceAdd, Nat.reduceMul, Nat.reduceSub, Nat.reduceDiv, Nat.reduceMod, Nat.zero_add, Nat.mul_zero, not_true_eq_false, not_false_eq_true, up_T, up_F, wr_T, wr_F, ngE, ngE', ngL, ngL', ngQ, ngQ', o2]
    · simp (disch := omega) only [n_M_ask, e_M_ask_0, e_M_ask_1, e_M_ask_2, e_M_ask_3, e_M_ask_4, e_M_ask_5, e_M_ask_6, e_M_ask_7, e_M_ask_8, e_M_ask_9, e_M_ask_10, e_M_ask_11, s_M_in, lit, nad, nml, bd_s, ct_s, ct_n, a11, a01, aB2, bitA, nlt, nle, neq, dlT, dlF, deT, deF, dqT, dqF, nN, inb, nsb, ndv, nrm, if_true, if_false, ite_true, ite_false, true_and, and_true, and_self, and_false, false_and, or_true, true_or, or_false, false_or, or_self, ↓reduceIte, eq_self, Nat.reduceAdd, Nat.reduceMul, Nat.reduceSub, Nat.reduceDiv, Nat.reduceMod, Nat.zero_add, Nat.mul_zero, not_true_eq_false, not_false_eq_true, up_T, up_F, wr_T, wr_F, ngE, ngE', ngL, ngL', ngQ, ngQ', wn]
  rw [if_neg e] at wn
  by_cases e2 : o = 1
  rotate_left
  · rw [if_neg e2] at wn
    refine ⟨-nI 1000000012, I, I, ?_, ?_, hI⟩
    · simp (disch := omega) only [n_H_ask, e_H_ask_0, e_H_ask_1, e_H_ask_2, e_H_ask_3, e_H_ask_4, e_H_ask_5, e_H_ask_6, e_H_ask_7, e_H_ask_8, e_H_ask_9, e_H_ask_10, e_H_ask_11, e_H_ask_12, n_H_isHut, e_H_isHut_0, e_H_isHut_1, s_H_within, lit, nad, nml, bd_s, ct_s, ct_n, a11, a01, aB2, bitA, nlt, nle, neq, dlT, dlF, deT, deF, dqT, dqF, nN, inb, nsb, ndv, nrm, if_true, if_false, ite_true, ite_false, true_and, and_true, and_self, and_false, false_and, or_true, true_or, or_false, false_or, or_self, ↓reduceIte, eq_self, Nat.reduceAdd, Nat.reduceMul, Nat.reduceSub, Nat.reduceDiv, Nat.reduceMod, Nat.zero_add, Nat.mul_zero, not_true_eq_false, not_false_eq_true, up_T, up_F, wr_T, wr_F, ngE, ngE', ngL, ngL', ngQ, ngQ', o2]
    · simp (disch := omega) only [n_M_ask, e_M_ask_0, e_M_ask_1, e_M_ask_2, e_M_ask_3, e_M_ask_4, e_M_ask_5, e_M_ask_6, e_M_ask_7, e_M_ask_8, e_M_ask_9, e_M_ask_10, e_M_ask_11, s_M_in, lit, nad, nml, bd_s, ct_s, ct_n, a11, a01, aB2, bitA, nlt, nle, neq, dlT, dlF, deT, deF, dqT, dqF, nN, inb, nsb, ndv, nrm, if_true, if_false, ite_true, ite_false, true_and, and_true, and_self, and_false, false_and, or_true, true_or, or_false, false_or, or_self, ↓reduceIte, eq_self, Nat.reduceAdd, Nat.reduceMul, Nat.reduceSub, Nat.reduceDiv, Nat.reduceMod, Nat.zero_add, Nat.mul_zero, not_true_eq_false, not_false_eq_true, up_T, up_F, wr_T, wr_F, ngE, ngE', ngL, ngL', ngQ, ngQ', wn]
  rw [if_pos e2] at wn
  obtain ⟨f, f1, f2, f3, f4, f5, f6⟩ := o4 e2
  have f1' : StC I (h' + 49) f := by rw [Nat.add_comm]; exact f1
  have ei := s_Stretch_isOf (d + 198) (h' + 49) k' f I f1' f2 k1
  have ee := s_Stretch_effort (d + 198) (h' + 49) f I f1' f2
  obtain ⟨g0, g1, g2, g3, g4, g5, g6, g7, g8, g9, g10, g11⟩ := f2
  have eu := s_M_isUnder (d + 198) (f 8) k' I g11 k1
  have eb := s_M_effortBy (d + 198) (f 8) (f 2) (f 3) (f 5) I g11 g4 g5 g8
  cases w : isN (f 8) k' with
  | true =>
    rw [w] at ei eu
    refine ⟨nI (effF f), I, I, ?_, ?_, hI⟩
    · simp (disch := omega) only [n_H_ask, e_H_ask_0, e_H_ask_1, e_H_ask_2, e_H_ask_3, e_H_ask_4, e_H_ask_5, e_H_ask_6, e_H_ask_7, e_H_ask_8, e_H_ask_9, e_H_ask_10, e_H_ask_11, e_H_ask_12, n_H_isHut, e_H_isHut_0, e_H_isHut_1, s_H_within, lit, nad, nml, bd_s, ct_s, ct_n, a11, a01, aB2, bitA, nlt, nle, neq, dlT, dlF, deT, deF, dqT, dqF, nN, inb, nsb, ndv, nrm, if_true, if_false, ite_true, ite_false, true_and, and_true, and_self, and_false, false_and, or_true, true_or, or_false, false_or, or_self, ↓reduceIte, eq_self, Nat.reduceAdd, Nat.reduceMul, Nat.reduceSub, Nat.reduceDiv, Nat.reduceMod, Nat.zero_add, Nat.mul_zero, not_true_eq_false, not_false_eq_true, up_T, up_F, wr_T, wr_F, ngE, ngE', ngL, ngL', ngQ, ngQ', o2, ei, ee, show b2 true = 1 from rfl]
    · simp (disch := omega) only [n_M_ask, e_M_ask_0, e_M_ask_1, e_M_ask_2, e_M_ask_3, e_M_ask_4, e_M_ask_5, e_M_ask_6, e_M_ask_7, e_M_ask_8, e_M_ask_9, e_M_ask_10, e_M_ask_11, s_M_in, lit, nad, nml, bd_s, ct_s, ct_n, a11, a01, aB2, bitA, nlt, nle, neq, dlT, dlF, deT, deF, dqT, dqF, nN, inb, nsb, ndv, nrm, if_true, if_false, ite_true, ite_false, true_and, and_true, and_self, and_false, false_and, or_true, true_or, or_false, false_or, or_self, ↓reduceIte, eq_self, Nat.reduceAdd, Nat.reduceMul, Nat.reduceSub, Nat.reduceDiv, Nat.reduceMod, Nat.zero_add, Nat.mul_zero, not_true_eq_false, not_false_eq_true, up_T, up_F, wr_T, wr_F, ngE, ngE', ngL, ngL', ngQ, ngQ', wn, f3, f4, f5, f6, eu, eb, show b2 true = 1 from rfl]
      rfl
  | false =>
    rw [w] at ei eu
    refine ⟨-nI 1000000012, I, I, ?_, ?_, hI⟩
    · simp (disch := omega) only [n_H_ask, e_H_ask_0, e_H_ask_1, e_H_ask_2, e_H_ask_3, e_H_ask_4, e_H_ask_5, e_H_ask_6, e_H_ask_7, e_H_ask_8, e_H_ask_9, e_H_ask_10, e_H_ask_11, e_H_ask_12, n_H_isHut, e_H_isHut_0, e_H_isHut_1, s_H_within, lit, nad, nml, bd_s, ct_s, ct_n, a11, a01, aB2, bitA, nlt, nle, neq, dlT, dlF, deT, deF, dqT, dqF, nN, inb, nsb, ndv, nrm, if_true, if_false, ite_true, ite_false, true_and, and_true, and_self, and_false, false_and, or_true, true_or, or_false, false_or, or_self, ↓reduceIte, eq_self, Nat.reduceAdd, Nat.reduceMul, Nat.reduceSub, Nat.reduceDiv, Nat.reduceMod, Nat.zero_add, Nat.mul_zero, not_true_eq_false, not_false_eq_true, up_T, up_F, wr_T, wr_F, ngE, ngE', ngL, ngL', ngQ, ngQ', o2, ei, show b2 false = 0 from rfl]
    · simp (disch := omega) only [n_M_ask, e_M_ask_0, e_M_ask_1, e_M_ask_2, e_M_ask_3, e_M_ask_4, e_M_ask_5, e_M_ask_6, e_M_ask_7, e_M_ask_8, e_M_ask_9, e_M_ask_10, e_M_ask_11, s_M_in, lit, nad, nml, bd_s, ct_s, ct_n, a11, a01, aB2, bitA, nlt, nle, neq, dlT, dlF, deT, deF, dqT, dqF, nN, inb, nsb, ndv, nrm, if_true, if_false, ite_true, ite_false, true_and, and_true, and_self, and_false, false_and, or_true, true_or, or_false, false_or, or_self, ↓reduceIte, eq_self, Nat.reduceAdd, Nat.reduceMul, Nat.reduceSub, Nat.reduceDiv, Nat.reduceMod, Nat.zero_add, Nat.mul_zero, not_true_eq_false, not_false_eq_true, up_T, up_F, wr_T, wr_F, ngE, ngE', ngL, ngL', ngQ, ngQ', wn, f3, f4, f5, f6, eu, show b2 false = 0 from rfl]
