/-! copy; huts. -/
theorem ngI2 {m : Nat} (h : m < 2147483648) : (-nI m).toInt = -(m : Int) := by
  rw [Int32.toInt_neg, nI_toInt (by omega), Int.bmod_def]
  simp only [Nat.reducePow]
  split <;> omega
theorem sbN {z m : Nat} (h : z < m) : nI z - nI m = -nI (m - z) := by
  have e : nI m = nI (m - z) + nI z := by rw [nad]; congr 1; omega
  rw [e, Int32.sub_eq_add_neg, Int32.neg_add, Int32.sub_eq_add_neg, Int32.add_comm (-nI (m - z)), ← Int32.add_assoc, Int32.add_right_neg, Int32.zero_add]
theorem sbLt {z m f : Nat} (hz : z ≤ 24) (hm : m < 2147483648) (hf : f < 2147483648) : (nI z - nI m < nI f) = (z < f + m) := by
  rcases Nat.lt_or_ge z m with e | e
  · rw [sbN e, Int32.lt_iff_toInt_lt, ngI2 (by omega), nI_toInt (by omega)]
    exact propext ⟨fun _ => by omega, fun _ => by omega⟩
  · rw [nsb e, nlt (by omega) hf]
    exact propext ⟨fun _ => by omega, fun _ => by omega⟩
theorem s_hasP (d c z f m : Nat) (I : mm_I) (h : I 1 c 1 = nI z) (hz : z ≤ 24) (hf : f < 2147483648) (hm : m < 2147483648) : Sn (d + 1) q_Counter_hasPlaces [.inr (1, c), .inl (nI f), .inl (nI m)] I = some (some (.inl (nI (if f + m ≤ z then 1 else 0))), (sh0, I)) := by
  by_cases e1 : f ≤ z
  · by_cases e2 : m ≤ z - f
    · rw [if_pos (by omega)]
      simp (disch := omega) only [n_Counter_hasPlaces, e_Counter_hasPlaces_0, e_Counter_hasPlaces_1, e_Counter_hasPlaces_2, e_Counter_hasPlaces_3, e_Counter_hasPlaces_4, e_Counter_hasPlaces_5, e_Counter_hasPlaces_6, lit, nad, nml, bd_s, ct_s, ct_n, a11, a01, aB2, bitA, nlt, nle, neq, dlT, dlF, deT, deF, dqT, dqF, nN, inb, nsb, ndv, nrm, if_true, if_false, ite_true, ite_false, true_and, and_true, and_self, and_false, false_and, or_true, true_or, or_false, false_or, or_self, ↓reduceIte, eq_self, Nat.reduceAdd, Nat.reduceMul, Nat.reduceSub, Nat.reduceDiv, Nat.reduceMod, Nat.zero_add, Nat.mul_zero, not_true_eq_false, not_false_eq_true, up_T, up_F, wr_T, wr_F, ngE, ngE', ngL, ngL', ngQ, ngQ', h]
    · rw [if_neg (by omega)]
      simp (disch := omega) only [n_Counter_hasPlaces, e_Counter_hasPlaces_0, e_Counter_hasPlaces_1, e_Counter_hasPlaces_2, e_Counter_hasPlaces_3, e_Counter_hasPlaces_4, e_Counter_hasPlaces_5, e_Counter_hasPlaces_6, lit, nad, nml, bd_s, ct_s, ct_n, a11, a01, aB2, bitA, nlt, nle, neq, dlT, dlF, deT, deF, dqT, dqF, nN, inb, nsb, ndv, nrm, if_true, if_false, ite_true, ite_false, true_and, and_true, and_self, and_false, false_and, or_true, true_or, or_false, false_or, or_self, ↓reduceIte, eq_self, Nat.reduceAdd, Nat.reduceMul, Nat.reduceSub, Nat.reduceDiv, Nat.reduceMod, Nat.zero_add, Nat.mul_zero, not_true_eq_false, not_false_eq_true, up_T, up_F, wr_T, wr_F, ngE, ngE', ngL, ngL', ngQ, ngQ', h]
  · rw [if_neg (by omega)]
    simp (disch := omega) only [n_Counter_hasPlaces, e_Counter_hasPlaces_0, e_Counter_hasPlaces_1, e_Counter_hasPlaces_2, e_Counter_hasPlaces_3, e_Counter_hasPlaces_4, e_Counter_hasPlaces_5, e_Counter_hasPlaces_6, lit, nad, nml, bd_s, ct_s, ct_n, a11, a01, aB2, bitA, nlt, nle, neq, dlT, dlF, deT, deF, dqT, dqF, nN, inb, nsb, ndv, nrm, if_true, if_false, ite_true, ite_false, true_and, and_true, and_self, and_false, false_and, or_true, true_or, or_false, false_or, or_self, ↓reduceIte, eq_self, Nat.reduceAdd, Nat.reduceMul, Nat.reduceSub, Nat.reduceDiv, Nat.reduceMod, Nat.zero_add, Nat.mul_zero, not_true_eq_false, not_false_eq_true, up_T, up_F, wr_T, wr_F, ngE, ngE', ngL, ngL', ngQ, ngQ', h]
theorem s_hasPm (d c : Nat) (f m : Int32) (I : mm_I) (hm : m < nI 0) : Sn (d + 1) q_Counter_hasPlaces [.inr (1, c), .inl f, .inl m] I = some (some (.inl (nI 0)), (sh0, I)) := by
  simp (disch := omega) only [n_Counter_hasPlaces, e_Counter_hasPlaces_0, e_Counter_hasPlaces_1, e_Counter_hasPlaces_2, e_Counter_hasPlaces_3, e_Counter_hasPlaces_4, e_Counter_hasPlaces_5, e_Counter_hasPlaces_6, lit, nad, nml, bd_s, ct_s, ct_n, a11, a01, aB2, bitA, nlt, nle, neq, dlT, dlF, deT, deF, dqT, dqF, nN, inb, nsb, ndv, nrm, if_true, if_false, ite_true, ite_false, true_and, and_true, and_self, and_false, false_and, or_true, true_or, or_false, false_or, or_self, ↓reduceIte, eq_self, Nat.reduceAdd, Nat.reduceMul, Nat.reduceSub, Nat.reduceDiv, Nat.reduceMod, Nat.zero_add, Nat.mul_zero, not_true_eq_false, not_false_eq_true, up_T, up_F, wr_T, wr_F, ngE, ngE', ngL, ngL', ngQ, ngQ', hm]
theorem s_hasPf (d c m : Nat) (f : Int32) (I : mm_I) (hm : m < 2147483648) (hf : f < nI 0) : Sn (d + 1) q_Counter_hasPlaces [.inr (1, c), .inl f, .inl (nI m)] I = some (some (.inl (nI 0)), (sh0, I)) := by
  simp (disch := omega) only [n_Counter_hasPlaces, e_Counter_hasPlaces_0, e_Counter_hasPlaces_1, e_Counter_hasPlaces_2, e_Counter_hasPlaces_3, e_Counter_hasPlaces_4, e_Counter_hasPlaces_5, e_Counter_hasPlaces_6, lit, nad, nml, bd_s, ct_s, ct_n, a11, a01, aB2, bitA, nlt, nle, neq, dlT, dlF, deT, deF, dqT, dqF, nN, inb, nsb, ndv, nrm, if_true, if_false, ite_true, ite_false, true_and, and_true, and_self, and_false, false_and, or_true, true_or, or_false, false_or, or_self, ↓reduceIte, eq_self, Nat.reduceAdd, Nat.reduceMul, Nat.reduceSub, Nat.reduceDiv, Nat.reduceMod, Nat.zero_add, Nat.mul_zero, not_true_eq_false, not_false_eq_true, up_T, up_F, wr_T, wr_F, ngE, ngE', ngL, ngL', ngQ, ngQ', hf]
theorem s_M_copyT (d c f e a m z1 z2 : Nat) (I : mm_I) (hc : c < 4) (he : e < 4) (h1 : f + m ≤ z1) (h2 : a + m ≤ z2) (hz1 : z1 ≤ 24) (hz2 : z2 ≤ 24) : Rn d q_M_copy 16 [some (.inr (12, 0)), some (.inl (nI c)), some (.inl (nI f)), some (.inl (nI e)), some (.inl (nI a)), some (.inl (nI m)), none] [] I = some (some (.inl (nI m)), (sh0, wr (wr I 67 0 0 m (fun k => I 66 0 (24 * c + f + k))) 66 0 (24 * e + a) m (fun k => I 66 0 (24 * c + f + k)))) := by
  have k0 : Rn d q_M_copy 16 [some (.inr (12, 0)), some (.inl (nI c)), some (.inl (nI f)), some (.inl (nI e)), some (.inl (nI a)), some (.inl (nI m)), none] [] I = Rn d q_M_copy 20 [some (.inr (12, 0)), some (.inl (nI c)), some (.inl (nI f)), some (.inl (nI e)), some (.inl (nI a)), some (.inl (nI m)), some (.inl (nI 0))] [] (wr I 67 0 0 m (fun k => I 66 0 (24 * c + f + k))) := by
    rw [e_M_copy_16]
    refine lpX (n := m) (σ := mm_I) (fun i t => Rn d q_M_copy 17 [some (.inr (12, 0)), some (.inl (nI c)), some (.inl (nI f)), some (.inl (nI e)), some (.inl (nI a)), some (.inl (nI m)), some (.inl (nI i))] [] t) (fun i t => t = wr I 67 0 0 i (fun k => I 66 0 (24 * c + f + k))) (fun r => r = _) (fun i t hi hV => Or.inr ⟨mm_up t 67 0 i (I 66 0 (24 * c + f + i)), by
      rw [hV]
      have := wr_s I 67 0 0 i (fun k => I 66 0 (24 * c + f + k))
      rw [Nat.zero_add] at this
      exact this, by
        have : t 66 0 (24 * c + f + i) = I 66 0 (24 * c + f + i) := by rw [hV, wr_F (by omega)]
        simp (disch := omega) only [e_M_copy_18, e_M_copy_17 (x6 := nI i), lit, nad, nml, bd_s, ct_s, ct_n, a11, a01, aB2, bitA, nlt, nle, neq, dlT, dlF, deT, deF, dqT, dqF, nN, inb, nsb, ndv, nrm, if_true, if_false, ite_true, ite_false, true_and, and_true, and_self, and_false, false_and, or_true, true_or, or_false, false_or, or_self, ↓reduceIte, eq_self, Nat.reduceAdd, Nat.reduceMul, Nat.reduceSub, Nat.reduceDiv, Nat.reduceMod, Nat.zero_add, Nat.mul_zero, not_true_eq_false, not_false_eq_true, up_T, up_F, wr_T, wr_F, ngE, ngE', ngL, ngL', ngQ, ngQ', this]⟩) (fun t hV => by
        rw [hV]
        simp (disch := omega) only [e_M_copy_17, e_M_copy_19, lit, nad, nml, bd_s, ct_s, ct_n, a11, a01, aB2, bitA, nlt, nle, neq, dlT, dlF, deT, deF, dqT, dqF, nN, inb, nsb, ndv, nrm, if_true, if_false, ite_true, ite_false, true_and, and_true, and_self, and_false, false_and, or_true, true_or, or_false, false_or, or_self, ↓reduceIte, eq_self, Nat.reduceAdd, Nat.reduceMul, Nat.reduceSub, Nat.reduceDiv, Nat.reduceMod, Nat.zero_add, Nat.mul_zero, not_true_eq_false, not_false_eq_true, up_T, up_F, wr_T, wr_F, ngE, ngE', ngL, ngL', ngQ, ngQ']) 0 _ (Nat.zero_le _) (wr_0 _ _ _ _ _).symm
  rw [k0]
  refine lpX (n := m) (σ := mm_I) (fun i t => Rn d q_M_copy 20 [some (.inr (12, 0)), some (.inl (nI c)), some (.inl (nI f)), some (.inl (nI e)), some (.inl (nI a)), some (.inl (nI m)), some (.inl (nI i))] [] t) (fun i t => t = wr (wr I 67 0 0 m (fun k => I 66 0 (24 * c + f + k))) 66 0 (24 * e + a) i (fun k => I 66 0 (24 * c + f + k))) (fun r => r = _) (fun i t hi hV => Or.inr ⟨mm_up t 66 0 (24 * e + a + i) (I 66 0 (24 * c + f + i)), by
    rw [hV]
    exact wr_s (wr I 67 0 0 m (fun k => I 66 0 (24 * c + f + k))) 66 0 (24 * e + a) i (fun k => I 66 0 (24 * c + f + k)), by
      have : t 67 0 i = I 66 0 (24 * c + f + i) := by rw [hV, wr_F (by omega), wr_T (by omega), Nat.sub_zero]
      simp (disch := omega) only [e_M_copy_21, e_M_copy_20 (x6 := nI i), lit, nad, nml, bd_s, ct_s, ct_n, a11, a01, aB2, bitA, nlt, nle, neq, dlT, dlF, deT, deF, dqT, dqF, nN, inb, nsb, ndv, nrm, if_true, if_false, ite_true, ite_false, true_and, and_true, and_self, and_false, false_and, or_true, true_or, or_false, false_or, or_self, ↓reduceIte, eq_self, Nat.reduceAdd, Nat.reduceMul, Nat.reduceSub, Nat.reduceDiv, Nat.reduceMod, Nat.zero_add, Nat.mul_zero, not_true_eq_false, not_false_eq_true, up_T, up_F, wr_T, wr_F, ngE, ngE', ngL, ngL', ngQ, ngQ', this]⟩) (fun t hV => by
      rw [hV]
      simp (disch := omega) only [e_M_copy_20, e_M_copy_22, lit, nad, nml, bd_s, ct_s, ct_n, a11, a01, aB2, bitA, nlt, nle, neq, dlT, dlF, deT, deF, dqT, dqF, nN, inb, nsb, ndv, nrm, if_true, if_false, ite_true, ite_false, true_and, and_true, and_self, and_false, false_and, or_true, true_or, or_false, false_or, or_self, ↓reduceIte, eq_self, Nat.reduceAdd, Nat.reduceMul, Nat.reduceSub, Nat.reduceDiv, Nat.reduceMod, Nat.zero_add, Nat.mul_zero, not_true_eq_false, not_false_eq_true, up_T, up_F, wr_T, wr_F, ngE, ngE', ngL, ngL', ngQ, ngQ']) 0 _ (Nat.zero_le _) (wr_0 _ _ _ _ _).symm
theorem Inv_copy {I : mm_I} {c f e a m z1 z2 : Nat} (h : Inv I) (hc : c < 4) (he : e < 4) (h1 : f + m ≤ z1) (h2 : a + m ≤ z2) (hz1 : z1 ≤ 24) (hz2 : z2 ≤ 24) : Inv (wr (wr (wr I 25 e a m (fun k => I 25 c (f + k))) 67 0 0 m (fun k => I 66 0 (24 * c + f + k))) 66 0 (24 * e + a) m (fun k => I 66 0 (24 * c + f + k))) := by
  refine Inv_cnt h (fun k i j h1 h2 h3 h4 h5 h6 => by simp (disch := omega) only [wr_F]) (fun c' hc' => ?_)
  by_cases q : c' = e
  · subst q
    obtain ⟨s1, y1, q1, a1, a2, a3, ⟨a4, a5, a6⟩, ⟨a7, a8, a9⟩⟩ := Cnt_iff.mp h.1.2.2.2.1 c (by omega)
    obtain ⟨s2, y2, q2, b1, b2, b3, ⟨b4, b5, b6⟩, ⟨b7, b8, b9⟩⟩ := Cnt_iff.mp h.1.2.2.2.1 c' hc'
    refine ⟨s2, y2, fun k => if a ≤ k ∧ k < a + m then q1 (f + (k - a)) else q2 k, b1, b2, fun k hk => ?_, ⟨by simp (disch := omega) only [wr_F]; exact b4, by simp (disch := omega) only [wr_F]; exact b5, fun k hk => ?_⟩, ⟨by simp (disch := omega) only [wr_F]; exact b7, by simp (disch := omega) only [wr_F]; exact b8, fun k hk => ?_⟩⟩
    · dsimp only
      split
      · exact a3 _ (by omega)
      · exact b3 k hk
    · dsimp only
      rw [wr_F (by omega), wr_F (by omega)]
      by_cases w : a ≤ k ∧ k < a + m
      · rw [if_pos w, wr_T (by omega)]; exact a6 _ (by omega)
      · rw [if_neg w, wr_F (by omega)]; exact b6 k hk
    · dsimp only
      by_cases w : a ≤ k ∧ k < a + m
      · rw [if_pos w, wr_T (by omega), show 24 * c' + k - (24 * c' + a) = k - a by omega, Nat.add_assoc]
        exact a9 _ (by omega)
      · rw [if_neg w, wr_F (by omega), wr_F (by omega), wr_F (by omega)]; exact b9 k hk
  · refine CM_eq (Cnt_iff.mp h.1.2.2.2.1 c' hc') (fun j => ?_) (fun k hk => ?_) ?_ ?_ (fun k hk => ?_) <;> simp (disch := omega) only [wr_F]
theorem Ok_copy (d : Nat) (c p e a m : Int32) : Ok (d + 200) q_H_copy q_M_copy [.inl c, .inl p, .inl e, .inl a, .inl m] := by
  intro I hI
  by_cases h1 : nI 0 ≤ c ∧ c ≤ nI 3
  rotate_left
  · refine ⟨-nI 1000000001, I, I, ?_, ?_, hI⟩
    · simp (disch := omega) only [n_H_copy, e_H_copy_0, e_H_copy_1, e_H_copy_2, e_H_copy_3, e_H_copy_4, n_H_isCounter, e_H_isCounter_0, e_H_isCounter_1, s_H_within, lit, nad, nml, bd_s, ct_s, ct_n, a11, a01, aB2, bitA, nlt, nle, neq, dlT, dlF, deT, deF, dqT, dqF, nN, inb, nsb, ndv, nrm, if_true, if_false, ite_true, ite_false, true_and, and_true, and_self, and_false, false_and, or_true, true_or, or_false, false_or, or_self, ↓reduceIte, eq_self, Nat.reduceAdd, Nat.reduceMul, Nat.reduceSub, Nat.reduceDiv, Nat.reduceMod, Nat.zero_add, Nat.mul_zero, not_true_eq_false, not_false_eq_true, up_T, up_F, wr_T, wr_F, ngE, ngE', ngL, ngL', ngQ, ngQ', h1]
    · simp (disch := omega) only [n_M_copy, e_M_copy_0, e_M_copy_1, e_M_copy_2, e_M_copy_3, e_M_copy_4, n_M_isCounter, e_M_isCounter_0, e_M_isCounter_1, s_M_in, lit, nad, nml, bd_s, ct_s, ct_n, a11, a01, aB2, bitA, nlt, nle, neq, dlT, dlF, deT, deF, dqT, dqF, nN, inb, nsb, ndv, nrm, if_true, if_false, ite_true, ite_false, true_and, and_true, and_self, and_false, false_and, or_true, true_or, or_false, false_or, or_self, ↓reduceIte, eq_self, Nat.reduceAdd, Nat.reduceMul, Nat.reduceSub, Nat.reduceDiv, Nat.reduceMod, Nat.zero_add, Nat.mul_zero, not_true_eq_false, not_false_eq_true, up_T, up_F, wr_T, wr_F, ngE, ngE', ngL, ngL', ngQ, ngQ', h1]
  obtain ⟨c', -, c1, c2⟩ := wof h1 (by decide) (by decide)
  subst c2
  by_cases h0 : nI 0 ≤ e ∧ e ≤ nI 3
  rotate_left
  · refine ⟨-nI 1000000001, I, I, ?_, ?_, hI⟩
    · simp (disch := omega) only [n_H_copy, e_H_copy_0, e_H_copy_1, e_H_copy_2, e_H_copy_3, e_H_copy_4, n_H_isCounter, e_H_isCounter_0, e_H_isCounter_1, s_H_within, lit, nad, nml, bd_s, ct_s, ct_n, a11, a01, aB2, bitA, nlt, nle, neq, dlT, dlF, deT, deF, dqT, dqF, nN, inb, nsb, ndv, nrm, if_true, if_false, ite_true, ite_false, true_and, and_true, and_self, and_false, false_and, or_true, true_or, or_false, false_or, or_self, ↓reduceIte, eq_self, Nat.reduceAdd, Nat.reduceMul, Nat.reduceSub, Nat.reduceDiv, Nat.reduceMod, Nat.zero_add, Nat.mul_zero, not_true_eq_false, not_false_eq_true, up_T, up_F, wr_T, wr_F, ngE, ngE', ngL, ngL', ngQ, ngQ', h0]
    · simp (disch := omega) only [n_M_copy, e_M_copy_0, e_M_copy_1, e_M_copy_2, e_M_copy_3, e_M_copy_4, n_M_isCounter, e_M_isCounter_0, e_M_isCounter_1, s_M_in, lit, nad, nml, bd_s, ct_s, ct_n, a11, a01, aB2, bitA, nlt, nle, neq, dlT, dlF, deT, deF, dqT, dqF, nN, inb, nsb, ndv, nrm, if_true, if_false, ite_true, ite_false, true_and, and_true, and_self, and_false, false_and, or_true, true_or, or_false, false_or, or_self, ↓reduceIte, eq_self, Nat.reduceAdd, Nat.reduceMul, Nat.reduceSub, Nat.reduceDiv, Nat.reduceMod, Nat.zero_add, Nat.mul_zero, not_true_eq_false, not_false_eq_true, up_T, up_F, wr_T, wr_F, ngE, ngE', ngL, ngL', ngQ, ngQ', h0]
  obtain ⟨e', -, e1, e2⟩ := wof h0 (by decide) (by decide)
  subst e2
  obtain ⟨s, z, q, q1, q2, q3, hC, hM⟩ := Cnt_iff.mp hI.1.2.2.2.1 c' (by omega)
  obtain ⟨t, y, r, r1, r2, r3, kC, kM⟩ := Cnt_iff.mp hI.1.2.2.2.1 e' (by omega)
  have q4 := hC.1
  have q5 := hC.2.1
  have q7 := hM.1
  have q8 := hM.2.1
  have hs := sE q1
  have r4 := kC.1
  have r5 := kC.2.1
  have r7 := kM.1
  have r8 := kM.2.1
  have ht := sE r1
  by_cases h2 : s = -nI 1
  · refine ⟨-nI 1000000011, I, I, ?_, ?_, hI⟩
    · simp (disch := omega) only [n_H_copy, e_H_copy_0, e_H_copy_1, e_H_copy_2, e_H_copy_3, e_H_copy_4, e_H_copy_5, e_H_copy_6, e_H_copy_7, n_H_isCounter, e_H_isCounter_0, e_H_isCounter_1, s_H_within, lit, nad, nml, bd_s, ct_s, ct_n, a11, a01, aB2, bitA, nlt, nle, neq, dlT, dlF, deT, deF, dqT, dqF, nN, inb, nsb, ndv, nrm, if_true, if_false, ite_true, ite_false, true_and, and_true, and_self, and_false, false_and, or_true, true_or, or_false, false_or, or_self, ↓reduceIte, eq_self, Nat.reduceAdd, Nat.reduceMul, Nat.reduceSub, Nat.reduceDiv, Nat.reduceMod, Nat.zero_add, Nat.mul_zero, not_true_eq_false, not_false_eq_true, up_T, up_F, wr_T, wr_F, ngE, ngE', ngL, ngL', ngQ, ngQ', q4, h2]
    · simp (disch := omega) only [n_M_copy, e_M_copy_0, e_M_copy_1, e_M_copy_2, e_M_copy_3, e_M_copy_4, e_M_copy_5, e_M_copy_6, e_M_copy_7, n_M_isCounter, e_M_isCounter_0, e_M_isCounter_1, s_M_in, lit, nad, nml, bd_s, ct_s, ct_n, a11, a01, aB2, bitA, nlt, nle, neq, dlT, dlF, deT, deF, dqT, dqF, nN, inb, nsb, ndv, nrm, if_true, if_false, ite_true, ite_false, true_and, and_true, and_self, and_false, false_and, or_true, true_or, or_false, false_or, or_self, ↓reduceIte, eq_self, Nat.reduceAdd, Nat.reduceMul, Nat.reduceSub, Nat.reduceDiv, Nat.reduceMod, Nat.zero_add, Nat.mul_zero, not_true_eq_false, not_false_eq_true, up_T, up_F, wr_T, wr_F, ngE, ngE', ngL, ngL', ngQ, ngQ', q7, hs, h2]
  by_cases h3 : t = -nI 1
  · refine ⟨-nI 1000000011, I, I, ?_, ?_, hI⟩
    · simp (disch := omega) only [n_H_copy, e_H_copy_0, e_H_copy_1, e_H_copy_2, e_H_copy_3, e_H_copy_4, e_H_copy_5, e_H_copy_6, e_H_copy_7, n_H_isCounter, e_H_isCounter_0, e_H_isCounter_1, s_H_within, lit, nad, nml, bd_s, ct_s, ct_n, a11, a01, aB2, bitA, nlt, nle, neq, dlT, dlF, deT, deF, dqT, dqF, nN, inb, nsb, ndv, nrm, if_true, if_false, ite_true, ite_false, true_and, and_true, and_self, and_false, false_and, or_true, true_or, or_false, false_or, or_self, ↓reduceIte, eq_self, Nat.reduceAdd, Nat.reduceMul, Nat.reduceSub, Nat.reduceDiv, Nat.reduceMod, Nat.zero_add, Nat.mul_zero, not_true_eq_false, not_false_eq_true, up_T, up_F, wr_T, wr_F, ngE, ngE', ngL, ngL', ngQ, ngQ', q4, h2, r4, h3]
    · simp (disch := omega) only [n_M_copy, e_M_copy_0, e_M_copy_1, e_M_copy_2, e_M_copy_3, e_M_copy_4, e_M_copy_5, e_M_copy_6, e_M_copy_7, n_M_isCounter, e_M_isCounter_0, e_M_isCounter_1, s_M_in, lit, nad, nml, bd_s, ct_s, ct_n, a11, a01, aB2, bitA, nlt, nle, neq, dlT, dlF, deT, deF, dqT, dqF, nN, inb, nsb, ndv, nrm, if_true, if_false, ite_true, ite_false, true_and, and_true, and_self, and_false, false_and, or_true, true_or, or_false, false_or, or_self, ↓reduceIte, eq_self, Nat.reduceAdd, Nat.reduceMul, Nat.reduceSub, Nat.reduceDiv, Nat.reduceMod, Nat.zero_add, Nat.mul_zero, not_true_eq_false, not_false_eq_true, up_T, up_F, wr_T, wr_F, ngE, ngE', ngL, ngL', ngQ, ngQ', q7, hs, h2, r7, ht, h3]
  by_cases h4 : s = t
  rotate_left
  · refine ⟨-nI 1000000012, I, I, ?_, ?_, hI⟩
    · simp (disch := omega) only [n_H_copy, e_H_copy_0, e_H_copy_1, e_H_copy_2, e_H_copy_3, e_H_copy_4, e_H_copy_5, e_H_copy_6, e_H_copy_7, e_H_copy_8, e_H_copy_9, n_H_isCounter, e_H_isCounter_0, e_H_isCounter_1, s_H_within, lit, nad, nml, bd_s, ct_s, ct_n, a11, a01, aB2, bitA, nlt, nle, neq, dlT, dlF, deT, deF, dqT, dqF, nN, inb, nsb, ndv, nrm, if_true, if_false, ite_true, ite_false, true_and, and_true, and_self, and_false, false_and, or_true, true_or, or_false, false_or, or_self, ↓reduceIte, eq_self, Nat.reduceAdd, Nat.reduceMul, Nat.reduceSub, Nat.reduceDiv, Nat.reduceMod, Nat.zero_add, Nat.mul_zero, not_true_eq_false, not_false_eq_true, up_T, up_F, wr_T, wr_F, ngE, ngE', ngL, ngL', ngQ, ngQ', q4, h2, r4, h3, h4]
    · simp (disch := omega) only [n_M_copy, e_M_copy_0, e_M_copy_1, e_M_copy_2, e_M_copy_3, e_M_copy_4, e_M_copy_5, e_M_copy_6, e_M_copy_7, e_M_copy_8, e_M_copy_9, n_M_isCounter, e_M_isCounter_0, e_M_isCounter_1, s_M_in, lit, nad, nml, bd_s, ct_s, ct_n, a11, a01, aB2, bitA, nlt, nle, neq, dlT, dlF, deT, deF, dqT, dqF, nN, inb, nsb, ndv, nrm, if_true, if_false, ite_true, ite_false, true_and, and_true, and_self, and_false, false_and, or_true, true_or, or_false, false_or, or_self, ↓reduceIte, eq_self, Nat.reduceAdd, Nat.reduceMul, Nat.reduceSub, Nat.reduceDiv, Nat.reduceMod, Nat.zero_add, Nat.mul_zero, not_true_eq_false, not_false_eq_true, up_T, up_F, wr_T, wr_F, ngE, ngE', ngL, ngL', ngQ, ngQ', q7, hs, h2, r7, ht, h3, h4]
  subst h4
  rcases ix m with hm | ⟨m', hm', hm⟩
  · refine ⟨-nI 1000000013, I, I, ?_, ?_, hI⟩
    · simp (disch := omega) only [n_H_copy, e_H_copy_0, e_H_copy_1, e_H_copy_2, e_H_copy_3, e_H_copy_4, e_H_copy_5, e_H_copy_6, e_H_copy_7, e_H_copy_8, e_H_copy_10, e_H_copy_11, e_H_copy_14, n_H_isCounter, e_H_isCounter_0, e_H_isCounter_1, s_H_within, lit, nad, nml, bd_s, ct_s, ct_n, a11, a01, aB2, bitA, nlt, nle, neq, dlT, dlF, deT, deF, dqT, dqF, nN, inb, nsb, ndv, nrm, if_true, if_false, ite_true, ite_false, true_and, and_true, and_self, and_false, false_and, or_true, true_or, or_false, false_or, or_self, ↓reduceIte, eq_self, Nat.reduceAdd, Nat.reduceMul, Nat.reduceSub, Nat.reduceDiv, Nat.reduceMod, Nat.zero_add, Nat.mul_zero, not_true_eq_false, not_false_eq_true, up_T, up_F, wr_T, wr_F, ngE, ngE', ngL, ngL', ngQ, ngQ', q4, h2, r4, s_hasPm _ _ _ _ _ hm]
    · by_cases z1 : p < nI 0 <;> by_cases z2 : a < nI 0 <;> simp (disch := omega) only [n_M_copy, e_M_copy_0, e_M_copy_1, e_M_copy_2, e_M_copy_3, e_M_copy_4, e_M_copy_5, e_M_copy_6, e_M_copy_7, e_M_copy_8, e_M_copy_10, e_M_copy_11, e_M_copy_12, e_M_copy_15, n_M_isCounter, e_M_isCounter_0, e_M_isCounter_1, s_M_in, lit, nad, nml, bd_s, ct_s, ct_n, a11, a01, aB2, bitA, nlt, nle, neq, dlT, dlF, deT, deF, dqT, dqF, nN, inb, nsb, ndv, nrm, if_true, if_false, ite_true, ite_false, true_and, and_true, and_self, and_false, false_and, or_true, true_or, or_false, false_or, or_self, ↓reduceIte, eq_self, Nat.reduceAdd, Nat.reduceMul, Nat.reduceSub, Nat.reduceDiv, Nat.reduceMod, Nat.zero_add, Nat.mul_zero, not_true_eq_false, not_false_eq_true, up_T, up_F, wr_T, wr_F, ngE, ngE', ngL, ngL', ngQ, ngQ', q7, hs, h2, r7, z1, z2, hm]
  subst hm
  rcases ix p with hp | ⟨p', hp', hp⟩
  · refine ⟨-nI 1000000013, I, I, ?_, ?_, hI⟩
    · simp (disch := omega) only [n_H_copy, e_H_copy_0, e_H_copy_1, e_H_copy_2, e_H_copy_3, e_H_copy_4, e_H_copy_5, e_H_copy_6, e_H_copy_7, e_H_copy_8, e_H_copy_10, e_H_copy_11, e_H_copy_14, n_H_isCounter, e_H_isCounter_0, e_H_isCounter_1, s_H_within, lit, nad, nml, bd_s, ct_s, ct_n, a11, a01, aB2, bitA, nlt, nle, neq, dlT, dlF, deT, deF, dqT, dqF, nN, inb, nsb, ndv, nrm, if_true, if_false, ite_true, ite_false, true_and, and_true, and_self, and_false, false_and, or_true, true_or, or_false, false_or, or_self, ↓reduceIte, eq_self, Nat.reduceAdd, Nat.reduceMul, Nat.reduceSub, Nat.reduceDiv, Nat.reduceMod, Nat.zero_add, Nat.mul_zero, not_true_eq_false, not_false_eq_true, up_T, up_F, wr_T, wr_F, ngE, ngE', ngL, ngL', ngQ, ngQ', q4, h2, r4, s_hasPf _ _ _ _ _ hm' hp]
    · simp (disch := omega) only [n_M_copy, e_M_copy_0, e_M_copy_1, e_M_copy_2, e_M_copy_3, e_M_copy_4, e_M_copy_5, e_M_copy_6, e_M_copy_7, e_M_copy_8, e_M_copy_10, e_M_copy_11, e_M_copy_12, e_M_copy_15, n_M_isCounter, e_M_isCounter_0, e_M_isCounter_1, s_M_in, lit, nad, nml, bd_s, ct_s, ct_n, a11, a01, aB2, bitA, nlt, nle, neq, dlT, dlF, deT, deF, dqT, dqF, nN, inb, nsb, ndv, nrm, if_true, if_false, ite_true, ite_false, true_and, and_true, and_self, and_false, false_and, or_true, true_or, or_false, false_or, or_self, ↓reduceIte, eq_self, Nat.reduceAdd, Nat.reduceMul, Nat.reduceSub, Nat.reduceDiv, Nat.reduceMod, Nat.zero_add, Nat.mul_zero, not_true_eq_false, not_false_eq_true, up_T, up_F, wr_T, wr_F, ngE, ngE', ngL, ngL', ngQ, ngQ', q7, hs, h2, r7, hp]
  subst hp
  have P1 := s_hasP (d + 198) c' z p' m' I q5 q2 hp' hm'
  rcases ix a with ha | ⟨a', ha', ha⟩
  · refine ⟨-nI 1000000013, I, I, ?_, ?_, hI⟩
    · by_cases w : p' + m' ≤ z <;> simp only [w, if_true, if_false] at P1 <;> simp (disch := omega) only [n_H_copy, e_H_copy_0, e_H_copy_1, e_H_copy_2, e_H_copy_3, e_H_copy_4, e_H_copy_5, e_H_copy_6, e_H_copy_7, e_H_copy_8, e_H_copy_10, e_H_copy_11, e_H_copy_12, e_H_copy_13, e_H_copy_14, n_H_isCounter, e_H_isCounter_0, e_H_isCounter_1, s_H_within, lit, nad, nml, bd_s, ct_s, ct_n, a11, a01, aB2, bitA, nlt, nle, neq, dlT, dlF, deT, deF, dqT, dqF, nN, inb, nsb, ndv, nrm, if_true, if_false, ite_true, ite_false, true_and, and_true, and_self, and_false, false_and, or_true, true_or, or_false, false_or, or_self, ↓reduceIte, eq_self, Nat.reduceAdd, Nat.reduceMul, Nat.reduceSub, Nat.reduceDiv, Nat.reduceMod, Nat.zero_add, Nat.mul_zero, not_true_eq_false, not_false_eq_true, up_T, up_F, wr_T, wr_F, ngE, ngE', ngL, ngL', ngQ, ngQ', q4, h2, r4, P1, s_hasPf _ _ _ _ _ hm' ha]
    · simp (disch := omega) only [n_M_copy, e_M_copy_0, e_M_copy_1, e_M_copy_2, e_M_copy_3, e_M_copy_4, e_M_copy_5, e_M_copy_6, e_M_copy_7, e_M_copy_8, e_M_copy_10, e_M_copy_11, e_M_copy_12, e_M_copy_15, n_M_isCounter, e_M_isCounter_0, e_M_isCounter_1, s_M_in, lit, nad, nml, bd_s, ct_s, ct_n, a11, a01, aB2, bitA, nlt, nle, neq, dlT, dlF, deT, deF, dqT, dqF, nN, inb, nsb, ndv, nrm, if_true, if_false, ite_true, ite_false, true_and, and_true, and_self, and_false, false_and, or_true, true_or, or_false, false_or, or_self, ↓reduceIte, eq_self, Nat.reduceAdd, Nat.reduceMul, Nat.reduceSub, Nat.reduceDiv, Nat.reduceMod, Nat.zero_add, Nat.mul_zero, not_true_eq_false, not_false_eq_true, up_T, up_F, wr_T, wr_F, ngE, ngE', ngL, ngL', ngQ, ngQ', q7, hs, h2, r7, ha]
  subst ha
  have P2 := s_hasP (d + 198) e' y a' m' I r5 r2 ha' hm'
  have L1 := sbLt (z := z) (m := m') (f := p') q2 hm' hp'
  have L2 := sbLt (z := y) (m := m') (f := a') r2 hm' ha'
  by_cases w1 : p' + m' ≤ z
  · rw [if_pos w1] at P1
    by_cases w2 : a' + m' ≤ y
    · rw [if_pos w2] at P2
      have hH : Sn (d + 200) q_H_copy [.inr (11, 0), .inl (nI c'), .inl (nI p'), .inl (nI e'), .inl (nI a'), .inl (nI m')] I = some (some (.inl (nI m')), (sh0, wr I 25 e' a' m' (fun k => I 25 c' (p' + k)))) := by
        simp (disch := omega) only [n_H_copy, e_H_copy_0, e_H_copy_1, e_H_copy_2, e_H_copy_3, e_H_copy_4, e_H_copy_5, e_H_copy_6, e_H_copy_7, e_H_copy_8, e_H_copy_10, e_H_copy_11, e_H_copy_12, e_H_copy_13, e_H_copy_15, n_H_isCounter, e_H_isCounter_0, e_H_isCounter_1, s_H_within, lit, nad, nml, bd_s, ct_s, ct_n, a11, a01, aB2, bitA, nlt, nle, neq, dlT, dlF, deT, deF, dqT, dqF, nN, inb, nsb, ndv, nrm, if_true, if_false, ite_true, ite_false, true_and, and_true, and_self, and_false, false_and, or_true, true_or, or_false, false_or, or_self, ↓reduceIte, eq_self, Nat.reduceAdd, Nat.reduceMul, Nat.reduceSub, Nat.reduceDiv, Nat.reduceMod, Nat.zero_add, Nat.mul_zero, not_true_eq_false, not_false_eq_true, up_T, up_F, wr_T, wr_F, ngE, ngE', ngL, ngL', ngQ, ngQ', q4, h2, r4, P1, P2, acT, cp_wr]
      have m0 := s_M_copyT (d + 199) c' p' e' a' m' z y (wr I 25 e' a' m' (fun k => I 25 c' (p' + k))) (by omega) (by omega) w1 w2 q2 r2
      have x7 : (wr I 25 e' a' m' (fun k => I 25 c' (p' + k))) 64 0 c' = s := by rw [wr_F (by omega)]; exact q7
      have x8 : (wr I 25 e' a' m' (fun k => I 25 c' (p' + k))) 65 0 c' = nI z := by rw [wr_F (by omega)]; exact q8
      have y7 : (wr I 25 e' a' m' (fun k => I 25 c' (p' + k))) 64 0 e' = s := by rw [wr_F (by omega)]; exact r7
      have y8 : (wr I 25 e' a' m' (fun k => I 25 c' (p' + k))) 65 0 e' = nI y := by rw [wr_F (by omega)]; exact r8
      have e66 : ∀ k, (wr I 25 e' a' m' (fun k => I 25 c' (p' + k))) 66 0 k = I 66 0 k := fun k => wr_F (by omega)
      have hInv := Inv_copy (f := p') (a := a') (m := m') hI (show c' < 4 by omega) (show e' < 4 by omega) w1 w2 q2 r2
      simp only [e66] at m0
      generalize wr I 25 e' a' m' (fun k => I 25 c' (p' + k)) = W at *
      have hM : Sn (d + 200) q_M_copy [.inr (12, 0), .inl (nI c'), .inl (nI p'), .inl (nI e'), .inl (nI a'), .inl (nI m')] W = Rn (d + 199) q_M_copy 16 [some (.inr (12, 0)), some (.inl (nI c')), some (.inl (nI p')), some (.inl (nI e')), some (.inl (nI a')), some (.inl (nI m')), none] [] W := by
        simp (disch := omega) only [n_M_copy, e_M_copy_0, e_M_copy_1, e_M_copy_2, e_M_copy_3, e_M_copy_4, e_M_copy_5, e_M_copy_6, e_M_copy_7, e_M_copy_8, e_M_copy_10, e_M_copy_11, e_M_copy_12, e_M_copy_13, e_M_copy_14, n_M_isCounter, e_M_isCounter_0, e_M_isCounter_1, s_M_in, lit, nad, nml, bd_s, ct_s, ct_n, a11, a01, aB2, bitA, nlt, nle, neq, dlT, dlF, deT, deF, dqT, dqF, nN, inb, nsb, ndv, nrm, if_true, if_false, ite_true, ite_false, true_and, and_true, and_self, and_false, false_and, or_true, true_or, or_false, false_or, or_self, ↓reduceIte, eq_self, Nat.reduceAdd, Nat.reduceMul, Nat.reduceSub, Nat.reduceDiv, Nat.reduceMod, Nat.zero_add, Nat.mul_zero, not_true_eq_false, not_false_eq_true, up_T, up_F, wr_T, wr_F, ngE, ngE', ngL, ngL', ngQ, ngQ', x7, x8, y7, y8, hs, h2, L1, L2]
      exact ⟨nI m', W, _, hH, hM.trans m0, hInv⟩
    · rw [if_neg w2] at P2
      refine ⟨-nI 1000000013, I, I, ?_, ?_, hI⟩
      · simp (disch := omega) only [n_H_copy, e_H_copy_0, e_H_copy_1, e_H_copy_2, e_H_copy_3, e_H_copy_4, e_H_copy_5, e_H_copy_6, e_H_copy_7, e_H_copy_8, e_H_copy_10, e_H_copy_11, e_H_copy_12, e_H_copy_13, e_H_copy_14, n_H_isCounter, e_H_isCounter_0, e_H_isCounter_1, s_H_within, lit, nad, nml, bd_s, ct_s, ct_n, a11, a01, aB2, bitA, nlt, nle, neq, dlT, dlF, deT, deF, dqT, dqF, nN, inb, nsb, ndv, nrm, if_true, if_false, ite_true, ite_false, true_and, and_true, and_self, and_false, false_and, or_true, true_or, or_false, false_or, or_self, ↓reduceIte, eq_self, Nat.reduceAdd, Nat.reduceMul, Nat.reduceSub, Nat.reduceDiv, Nat.reduceMod, Nat.zero_add, Nat.mul_zero, not_true_eq_false, not_false_eq_true, up_T, up_F, wr_T, wr_F, ngE, ngE', ngL, ngL', ngQ, ngQ', q4, h2, r4, P1, P2]
      · simp (disch := omega) only [n_M_copy, e_M_copy_0, e_M_copy_1, e_M_copy_2, e_M_copy_3, e_M_copy_4, e_M_copy_5, e_M_copy_6, e_M_copy_7, e_M_copy_8, e_M_copy_10, e_M_copy_11, e_M_copy_12, e_M_copy_13, e_M_copy_14, e_M_copy_15, n_M_isCounter, e_M_isCounter_0, e_M_isCounter_1, s_M_in, lit, nad, nml, bd_s, ct_s, ct_n, a11, a01, aB2, bitA, nlt, nle, neq, dlT, dlF, deT, deF, dqT, dqF, nN, inb, nsb, ndv, nrm, if_true, if_false, ite_true, ite_false, true_and, and_true, and_self, and_false, false_and, or_true, true_or, or_false, false_or, or_self, ↓reduceIte, eq_self, Nat.reduceAdd, Nat.reduceMul, Nat.reduceSub, Nat.reduceDiv, Nat.reduceMod, Nat.zero_add, Nat.mul_zero, not_true_eq_false, not_false_eq_true, up_T, up_F, wr_T, wr_F, ngE, ngE', ngL, ngL', ngQ, ngQ', q7, q8, r7, r8, hs, h2, L1, L2]
  · rw [if_neg w1] at P1
    refine ⟨-nI 1000000013, I, I, ?_, ?_, hI⟩
    · simp (disch := omega) only [n_H_copy, e_H_copy_0, e_H_copy_1, e_H_copy_2, e_H_copy_3, e_H_copy_4, e_H_copy_5, e_H_copy_6, e_H_copy_7, e_H_copy_8, e_H_copy_10, e_H_copy_11, e_H_copy_14, n_H_isCounter, e_H_isCounter_0, e_H_isCounter_1, s_H_within, lit, nad, nml, bd_s, ct_s, ct_n, a11, a01, aB2, bitA, nlt, nle, neq, dlT, dlF, deT, deF, dqT, dqF, nN, inb, nsb, ndv, nrm, if_true, if_false, ite_true, ite_false, true_and, and_true, and_self, and_false, false_and, or_true, true_or, or_false, false_or, or_self, ↓reduceIte, eq_self, Nat.reduceAdd, Nat.reduceMul, Nat.reduceSub, Nat.reduceDiv, Nat.reduceMod, Nat.zero_add, Nat.mul_zero, not_true_eq_false, not_false_eq_true, up_T, up_F, wr_T, wr_F, ngE, ngE', ngL, ngL', ngQ, ngQ', q4, h2, r4, P1]
    · simp (disch := omega) only [n_M_copy, e_M_copy_0, e_M_copy_1, e_M_copy_2, e_M_copy_3, e_M_copy_4, e_M_copy_5, e_M_copy_6, e_M_copy_7, e_M_copy_8, e_M_copy_10, e_M_copy_11, e_M_copy_12, e_M_copy_13, e_M_copy_15, n_M_isCounter, e_M_isCounter_0, e_M_isCounter_1, s_M_in, lit, nad, nml, bd_s, ct_s, ct_n, a11, a01, aB2, bitA, nlt, nle, neq, dlT, dlF, deT, deF, dqT, dqF, nN, inb, nsb, ndv, nrm, if_true, if_false, ite_true, ite_false, true_and, and_true, and_self, and_false, false_and, or_true, true_or, or_false, false_or, or_self, ↓reduceIte, eq_self, Nat.reduceAdd, Nat.reduceMul, Nat.reduceSub, Nat.reduceDiv, Nat.reduceMod, Nat.zero_add, Nat.mul_zero, not_true_eq_false, not_false_eq_true, up_T, up_F, wr_T, wr_F, ngE, ngE', ngL, ngL', ngQ, ngQ', q7, q8, r7, hs, h2, L1]
