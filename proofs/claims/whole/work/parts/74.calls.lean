/-! Calls: way, without, clear, choose, stretch. -/
theorem Ok_without (d : Nat) (t w : Int32) : Ok (d + 200) q_H_without q_M_without [.inl t, .inl w] := by
  rcases ix t with ht | ⟨j, hj, ht⟩
  · refine call_id (fun _ => -nI 1000000001) (fun A I _ _ _ _ => ?_) (fun A I hR _ _ _ => ?_)
    · simp (disch := omega) only [n_H_without, e_H_without_0, e_H_without_1, e_H_without_2, e_H_without_3, e_H_without_4, e_H_without_5, e_H_without_6, s_H_isStretchN _ _ _ ht, lit, nad, nml, bd_s, ct_s, ct_n, a11, a01, aB2, bitA, nlt, nle, neq, dlT, dlF, deT, deF, dqT, dqF, nN, inb, nsb, ndv, nrm, if_true, if_false, ite_true, ite_false, true_and, and_true, and_self, and_false, false_and, or_true, true_or, or_false, false_or, or_self, ↓reduceIte, eq_self, Nat.reduceAdd, Nat.reduceMul, Nat.reduceSub, Nat.reduceDiv, Nat.reduceMod, Nat.zero_add, Nat.mul_zero, not_true_eq_false, not_false_eq_true, up_T, up_F, wr_T, wr_F, ngE, ngE', ngL, ngL', ngQ, ngQ']
    · simp (disch := omega) only [n_M_without, e_M_without_0, e_M_without_1, e_M_without_2, e_M_without_3, e_M_without_4, e_M_without_5, e_M_without_6, s_M_isPathN _ _ _ ht, lit, nad, nml, bd_s, ct_s, ct_n, a11, a01, aB2, bitA, nlt, nle, neq, dlT, dlF, deT, deF, dqT, dqF, nN, inb, nsb, ndv, nrm, if_true, if_false, ite_true, ite_false, true_and, and_true, and_self, and_false, false_and, or_true, true_or, or_false, false_or, or_self, ↓reduceIte, eq_self, Nat.reduceAdd, Nat.reduceMul, Nat.reduceSub, Nat.reduceDiv, Nat.reduceMod, Nat.zero_add, Nat.mul_zero, not_true_eq_false, not_false_eq_true, up_T, up_F, wr_T, wr_F, ngE, ngE', ngL, ngL', ngQ, ngQ']
  subst ht
  rcases ix w with hw | ⟨k, hk, hw⟩
  · refine call_id (fun _ => -nI 1000000001) (fun A I hC _ g _ => ?_) (fun A I hR g _ _ => ?_)
    · have hh := s_H_isStretch (d + 197) j A I hC g hj
      by_cases e : j < A 0 0 0 <;> simp only [e, if_true, if_false] at hh <;> simp (disch := omega) only [n_H_without, e_H_without_0, e_H_without_1, e_H_without_2, e_H_without_3, e_H_without_4, e_H_without_5, e_H_without_6, s_H_isStretchN _ _ _ hw, hh, lit, nad, nml, bd_s, ct_s, ct_n, a11, a01, aB2, bitA, nlt, nle, neq, dlT, dlF, deT, deF, dqT, dqF, nN, inb, nsb, ndv, nrm, if_true, if_false, ite_true, ite_false, true_and, and_true, and_self, and_false, false_and, or_true, true_or, or_false, false_or, or_self, ↓reduceIte, eq_self, Nat.reduceAdd, Nat.reduceMul, Nat.reduceSub, Nat.reduceDiv, Nat.reduceMod, Nat.zero_add, Nat.mul_zero, not_true_eq_false, not_false_eq_true, up_T, up_F, wr_T, wr_F, ngE, ngE', ngL, ngL', ngQ, ngQ']
    · have hh := s_M_isPath (d + 197) j A I hR g hj
      by_cases e : j < A 0 0 0 <;> simp only [e, if_true, if_false] at hh <;> simp (disch := omega) only [n_M_without, e_M_without_0, e_M_without_1, e_M_without_2, e_M_without_3, e_M_without_4, e_M_without_5, e_M_without_6, s_M_isPathN _ _ _ hw, hh, lit, nad, nml, bd_s, ct_s, ct_n, a11, a01, aB2, bitA, nlt, nle, neq, dlT, dlF, deT, deF, dqT, dqF, nN, inb, nsb, ndv, nrm, if_true, if_false, ite_true, ite_false, true_and, and_true, and_self, and_false, false_and, or_true, true_or, or_false, false_or, or_self, ↓reduceIte, eq_self, Nat.reduceAdd, Nat.reduceMul, Nat.reduceSub, Nat.reduceDiv, Nat.reduceMod, Nat.zero_add, Nat.mul_zero, not_true_eq_false, not_false_eq_true, up_T, up_F, wr_T, wr_F, ngE, ngE', ngL, ngL', ngQ, ngQ']
  subst hw
  refine call_hill (fun A => if j < A 0 0 0 ∧ k < A 0 0 0 then nI (bo A k j) else -nI 1000000001) (fun A => A) (fun A I hC F g _ => ?_) (fun A I hR g _ h8 => ?_) (fun A g h => ⟨g, h, rfl⟩)
  · have hn := g.1.1
    have hh := s_H_isStretch (d + 197) j A I hC g hj
    have hh2 := s_H_isStretch (d + 197) k A I hC g hk
    by_cases e : j < A 0 0 0
    · simp only [if_pos e] at hh
      by_cases e2 : k < A 0 0 0
      · simp only [if_pos e2] at hh2
        rw [if_pos ⟨e, e2⟩]
        obtain ⟨I1, t1, t2, t3⟩ := s_Walk_tread (d + 195) 0 k (nI k) A I hC F (by decide) g (fun p hp => by rw [neq (by omega) hk])
        have hb := t3 j (by omega)
        refine ⟨I1, ?_, RepC_o hC g t2 (by decide), Fix_o F (fun r j _ => by rw [t2 7 (by decide)]), dC_wk t2⟩
        simp (disch := omega) only [n_H_without, e_H_without_0, e_H_without_1, e_H_without_2, e_H_without_3, e_H_without_4, e_H_without_5, e_H_without_6, lit, nad, nml, bd_s, ct_s, ct_n, a11, a01, aB2, bitA, nlt, nle, neq, dlT, dlF, deT, deF, dqT, dqF, nN, inb, nsb, ndv, nrm, if_true, if_false, ite_true, ite_false, true_and, and_true, and_self, and_false, false_and, or_true, true_or, or_false, false_or, or_self, ↓reduceIte, eq_self, Nat.reduceAdd, Nat.reduceMul, Nat.reduceSub, Nat.reduceDiv, Nat.reduceMod, Nat.zero_add, Nat.mul_zero, not_true_eq_false, not_false_eq_true, up_T, up_F, wr_T, wr_F, ngE, ngE', ngL, ngL', ngQ, ngQ', hh, hh2, t1, hb]
      · simp only [if_neg e2] at hh2
        rw [if_neg (fun q => e2 q.2)]
        exact ⟨I, by simp (disch := omega) only [n_H_without, e_H_without_0, e_H_without_1, e_H_without_2, e_H_without_3, e_H_without_4, e_H_without_5, e_H_without_6, lit, nad, nml, bd_s, ct_s, ct_n, a11, a01, aB2, bitA, nlt, nle, neq, dlT, dlF, deT, deF, dqT, dqF, nN, inb, nsb, ndv, nrm, if_true, if_false, ite_true, ite_false, true_and, and_true, and_self, and_false, false_and, or_true, true_or, or_false, false_or, or_self, ↓reduceIte, eq_self, Nat.reduceAdd, Nat.reduceMul, Nat.reduceSub, Nat.reduceDiv, Nat.reduceMod, Nat.zero_add, Nat.mul_zero, not_true_eq_false, not_false_eq_true, up_T, up_F, wr_T, wr_F, ngE, ngE', ngL, ngL', ngQ, ngQ', hh, hh2], hC, F, fr_rf _ _⟩
    · simp only [if_neg e] at hh
      rw [if_neg (fun q => e q.1)]
      exact ⟨I, by simp (disch := omega) only [n_H_without, e_H_without_0, e_H_without_1, e_H_without_2, e_H_without_3, e_H_without_4, e_H_without_5, e_H_without_6, lit, nad, nml, bd_s, ct_s, ct_n, a11, a01, aB2, bitA, nlt, nle, neq, dlT, dlF, deT, deF, dqT, dqF, nN, inb, nsb, ndv, nrm, if_true, if_false, ite_true, ite_false, true_and, and_true, and_self, and_false, false_and, or_true, true_or, or_false, false_or, or_self, ↓reduceIte, eq_self, Nat.reduceAdd, Nat.reduceMul, Nat.reduceSub, Nat.reduceDiv, Nat.reduceMod, Nat.zero_add, Nat.mul_zero, not_true_eq_false, not_false_eq_true, up_T, up_F, wr_T, wr_F, ngE, ngE', ngL, ngL', ngQ, ngQ', hh], hC, F, fr_rf _ _⟩
  · have hn := g.1.1
    have hh := s_M_isPath (d + 197) j A I hR g hj
    have hh2 := s_M_isPath (d + 197) k A I hR g hk
    by_cases e : j < A 0 0 0
    · simp only [if_pos e] at hh
      by_cases e2 : k < A 0 0 0
      · simp only [if_pos e2] at hh2
        rw [if_pos ⟨e, e2⟩]
        obtain ⟨I1, t1, t2, t2', t3⟩ := s_M_findBoots (d + 194) k A (mm_up I 12 0 8 (nI k)) (RepR_o hR (by funext j; exact up_F (by omega))) g (fun p hp => by rw [up_s, neq (by omega) hk])
        have hb := t3 j (by omega)
        have hR1 : RepR 0 A I1 := RepR_o hR (by rw [t2 47 (by decide)]; funext j; exact up_F (by omega))
        refine ⟨mm_up I1 12 0 8 (-nI 1), ?_, RepR_o hR1 (by funext j; exact up_F (by omega)), fr_up (fr_tr (fr_up (fr_rf _ _) (by unfold dM'; omega)) (dM_fb t2)) (by unfold dM'; omega), ?_⟩
        · simp (disch := omega) only [n_M_without, e_M_without_0, e_M_without_1, e_M_without_2, e_M_without_3, e_M_without_4, e_M_without_5, e_M_without_6, lit, nad, nml, bd_s, ct_s, ct_n, a11, a01, aB2, bitA, nlt, nle, neq, dlT, dlF, deT, deF, dqT, dqF, nN, inb, nsb, ndv, nrm, if_true, if_false, ite_true, ite_false, true_and, and_true, and_self, and_false, false_and, or_true, true_or, or_false, false_or, or_self, ↓reduceIte, eq_self, Nat.reduceAdd, Nat.reduceMul, Nat.reduceSub, Nat.reduceDiv, Nat.reduceMod, Nat.zero_add, Nat.mul_zero, not_true_eq_false, not_false_eq_true, up_T, up_F, wr_T, wr_F, ngE, ngE', ngL, ngL', ngQ, ngQ', hh, hh2, t1, hb]
        · have q := fun j (hj : j ≠ 7) => t2' j hj
          refine ⟨?_, ?_, ?_, ?_⟩
          · rw [up_F (by omega), q 3 (by decide), up_F (by omega)]
          · rw [up_s, h8]
          · rw [up_F (by omega), q 11 (by decide), up_F (by omega)]
          · rw [up_F (by omega), q 47 (by decide), up_F (by omega)]
      · simp only [if_neg e2] at hh2
        rw [if_neg (fun q => e2 q.2)]
        exact ⟨I, by simp (disch := omega) only [n_M_without, e_M_without_0, e_M_without_1, e_M_without_2, e_M_without_3, e_M_without_4, e_M_without_5, e_M_without_6, lit, nad, nml, bd_s, ct_s, ct_n, a11, a01, aB2, bitA, nlt, nle, neq, dlT, dlF, deT, deF, dqT, dqF, nN, inb, nsb, ndv, nrm, if_true, if_false, ite_true, ite_false, true_and, and_true, and_self, and_false, false_and, or_true, true_or, or_false, false_or, or_self, ↓reduceIte, eq_self, Nat.reduceAdd, Nat.reduceMul, Nat.reduceSub, Nat.reduceDiv, Nat.reduceMod, Nat.zero_add, Nat.mul_zero, not_true_eq_false, not_false_eq_true, up_T, up_F, wr_T, wr_F, ngE, ngE', ngL, ngL', ngQ, ngQ', hh, hh2], hR, fr_rf _ _, k12_rf _⟩
    · simp only [if_neg e] at hh
      rw [if_neg (fun q => e q.1)]
      exact ⟨I, by simp (disch := omega) only [n_M_without, e_M_without_0, e_M_without_1, e_M_without_2, e_M_without_3, e_M_without_4, e_M_without_5, e_M_without_6, lit, nad, nml, bd_s, ct_s, ct_n, a11, a01, aB2, bitA, nlt, nle, neq, dlT, dlF, deT, deF, dqT, dqF, nN, inb, nsb, ndv, nrm, if_true, if_false, ite_true, ite_false, true_and, and_true, and_self, and_false, false_and, or_true, true_or, or_false, false_or, or_self, ↓reduceIte, eq_self, Nat.reduceAdd, Nat.reduceMul, Nat.reduceSub, Nat.reduceDiv, Nat.reduceMod, Nat.zero_add, Nat.mul_zero, not_true_eq_false, not_false_eq_true, up_T, up_F, wr_T, wr_F, ngE, ngE', ngL, ngL', ngQ, ngQ', hh], hR, fr_rf _ _, k12_rf _⟩
noncomputable def wayA (A : mm_A) (j k : Nat) : Int32 := if ds A 99 (A 4 j 1) (A 4 j 0) < 536870912 then (if k = 0 then nI (dE A 99 (A 4 j 1) (A 4 j 0)) else if k = 1 then nI (dM A 99 (A 4 j 1) (A 4 j 0)) else if k - 2 < dM A 99 (A 4 j 1) (A 4 j 0) then nI (wp A 99 (A 4 j 1) (A 4 j 0) (k - 2)) else -nI 1000000005) else -nI 1000000005
theorem Ok_way (d : Nat) (t w : Int32) : Ok (d + 200) q_H_way q_M_way [.inl t, .inl w] := by
  rcases ix t with ht | ⟨j, hj, ht⟩
  · refine call_id (fun _ => -nI 1000000001) (fun A I _ _ _ _ => ?_) (fun A I hR _ _ _ => ?_)
    · simp (disch := omega) only [n_H_way, e_H_way_0, e_H_way_1, e_H_way_2, e_H_way_3, e_H_way_4, e_H_way_5, e_H_way_6, e_H_way_7, e_H_way_8, e_H_way_9, e_H_way_10, e_H_way_11, e_H_way_12, e_H_way_13, e_H_way_14, e_H_way_15, e_H_way_16, e_H_way_17, s_Rows_hasN _ _ _ _ ht, lit, nad, nml, bd_s, ct_s, ct_n, a11, a01, aB2, bitA, nlt, nle, neq, dlT, dlF, deT, deF, dqT, dqF, nN, inb, nsb, ndv, nrm, if_true, if_false, ite_true, ite_false, true_and, and_true, and_self, and_false, false_and, or_true, true_or, or_false, false_or, or_self, ↓reduceIte, eq_self, Nat.reduceAdd, Nat.reduceMul, Nat.reduceSub, Nat.reduceDiv, Nat.reduceMod, Nat.zero_add, Nat.mul_zero, not_true_eq_false, not_false_eq_true, up_T, up_F, wr_T, wr_F, ngE, ngE', ngL, ngL', ngQ, ngQ']
    · simp (disch := omega) only [n_M_way, e_M_way_0, e_M_way_1, e_M_way_2, e_M_way_3, e_M_way_4, e_M_way_5, e_M_way_6, e_M_way_7, e_M_way_8, e_M_way_9, e_M_way_10, e_M_way_11, e_M_way_12, e_M_way_13, e_M_way_14, s_M_in, lit, nad, nml, bd_s, ct_s, ct_n, a11, a01, aB2, bitA, nlt, nle, neq, dlT, dlF, deT, deF, dqT, dqF, nN, inb, nsb, ndv, nrm, if_true, if_false, ite_true, ite_false, true_and, and_true, and_self, and_false, false_and, or_true, true_or, or_false, false_or, or_self, ↓reduceIte, eq_self, Nat.reduceAdd, Nat.reduceMul, Nat.reduceSub, Nat.reduceDiv, Nat.reduceMod, Nat.zero_add, Nat.mul_zero, not_true_eq_false, not_false_eq_true, up_T, up_F, wr_T, wr_F, ngE, ngE', ngL, ngL', ngQ, ngQ', ngx ht]
  subst ht
  rcases ix w with hw | ⟨k, hk, hw⟩
  · refine call_id (fun _ => -nI 1000000001) (fun A I hC _ g _ => ?_) (fun A I hR g _ _ => ?_)
    · have hb : A 0 0 1 ≤ 12 := g.2.1 0 (by decide)
      have hm : I 7 0 3 = nI (A 0 0 1) := c0_mn hC (t := 0) (by decide)
      have hh := s_Rows_has (d + 198) 0 j (A 0 0 1) I hm (by omega) hj
      by_cases e : j < A 0 0 1 <;> simp only [e, if_true, if_false] at hh <;> simp (disch := omega) only [n_H_way, e_H_way_0, e_H_way_1, e_H_way_2, e_H_way_3, e_H_way_4, e_H_way_5, e_H_way_6, e_H_way_7, e_H_way_8, e_H_way_9, e_H_way_10, e_H_way_11, e_H_way_12, e_H_way_13, e_H_way_14, e_H_way_15, e_H_way_16, e_H_way_17, lit, nad, nml, bd_s, ct_s, ct_n, a11, a01, aB2, bitA, nlt, nle, neq, dlT, dlF, deT, deF, dqT, dqF, nN, inb, nsb, ndv, nrm, if_true, if_false, ite_true, ite_false, true_and, and_true, and_self, and_false, false_and, or_true, true_or, or_false, false_or, or_self, ↓reduceIte, eq_self, Nat.reduceAdd, Nat.reduceMul, Nat.reduceSub, Nat.reduceDiv, Nat.reduceMod, Nat.zero_add, Nat.mul_zero, not_true_eq_false, not_false_eq_true, up_T, up_F, wr_T, wr_F, ngE, ngE', ngL, ngL', ngQ, ngQ', hh, hw]
    · have hb : A 0 0 1 ≤ 12 := g.2.1 0 (by decide)
      have hm : I 47 0 1 = nI (A 0 0 1) := hR.1 1 (by decide)
      have hwl := wl (n := A 0 0 1) hj (by omega)
      by_cases e : j < A 0 0 1 <;> simp (disch := omega) only [n_M_way, e_M_way_0, e_M_way_1, e_M_way_2, e_M_way_3, e_M_way_4, e_M_way_5, e_M_way_6, e_M_way_7, e_M_way_8, e_M_way_9, e_M_way_10, e_M_way_11, e_M_way_12, e_M_way_13, e_M_way_14, s_M_in, lit, hm, hwl, lit, nad, nml, bd_s, ct_s, ct_n, a11, a01, aB2, bitA, nlt, nle, neq, dlT, dlF, deT, deF, dqT, dqF, nN, inb, nsb, ndv, nrm, if_true, if_false, ite_true, ite_false, true_and, and_true, and_self, and_false, false_and, or_true, true_or, or_false, false_or, or_self, ↓reduceIte, eq_self, Nat.reduceAdd, Nat.reduceMul, Nat.reduceSub, Nat.reduceDiv, Nat.reduceMod, Nat.zero_add, Nat.mul_zero, not_true_eq_false, not_false_eq_true, up_T, up_F, wr_T, wr_F, ngE, ngE', ngL, ngL', ngQ, ngQ', hw]
  subst hw
  refine call_hill (fun A => if j < A 0 0 1 then wayA A j k else -nI 1000000001) (fun A => A) (fun A I hC F g _ => ?_) (fun A I hR g _ h8 => ?_) (fun A g h => ⟨g, h, rfl⟩)
  · have hb : A 0 0 1 ≤ 12 := g.2.1 0 (by decide)
    have hm : I 7 0 3 = nI (A 0 0 1) := c0_mn hC (t := 0) (by decide)
    have hh := s_Rows_has (d + 198) 0 j (A 0 0 1) I hm (by omega) hj
    by_cases e : j < A 0 0 1
    · simp only [if_pos e] at hh ⊢
      have gE := GE_of g
      obtain ⟨g0, g1, g2, g3⟩ := trG g e
      have we := s_Walk_weigh (d + 197) 0 99 (-nI 1000000005) A I hC g hzN
      have ew : eqo [40] I (wr I 40 0 0 (A 0 0 0) (fun p => nI (wgt A 99 p))) := eqo_wr (eqo_rf _ _) (by decide)
      have hC1 := RepC_o hC g ew (by decide)
      have F1 : Fix (wr I 40 0 0 (A 0 0 0) (fun p => nI (wgt A 99 p))) := Fix_o F (fun r j _ => by rw [ew 7 (by decide)])
      have a0 := s_at0 (d + 197) 0 j 0 A _ hC1 F1 g (by decide) e (by decide)
      have a1 := s_at0 (d + 197) 0 j 1 A _ hC1 F1 g (by decide) e (by decide)
      simp only [Nat.add_zero] at a0 a1
      obtain ⟨I1, f1, f2, f3⟩ := s_Walk_find (d + 196) 0 99 (A 4 j 0) (A 4 j 1) A _ hC1 g (by omega) (by omega) (fun p hp => by rw [wr_T (by omega), Nat.sub_zero])
      have e1 : eqo [10, 40, 41, 42, 43] I I1 := eqo_tr (eqo_mono ew (by decide)) (eqo_mono f2 (by decide))
      refine ⟨I1, ?_, RepC_o hC g e1 (by decide), Fix_o F (fun r j _ => by rw [e1 7 (by decide)]), dC_wk e1⟩
      unfold wayA
      generalize A 4 j 0 = fr at *
      generalize A 4 j 1 = to at *
      by_cases hr : ds A 99 to fr < 536870912
      · rw [if_pos hr] at f1 ⊢
        obtain ⟨f4, f5, f6⟩ := f3 hr
        have h9 := dM_9 gE (by omega) ((ds_F (x := 99) (to := to) gE (by omega)).2.mp hr)
        by_cases k0 : k = 0
        · simp (disch := omega) only [n_H_way, e_H_way_0, e_H_way_1, e_H_way_2, e_H_way_3, e_H_way_4, e_H_way_5, e_H_way_6, e_H_way_7, e_H_way_8, e_H_way_9, e_H_way_10, e_H_way_11, e_H_way_12, e_H_way_13, e_H_way_14, e_H_way_15, e_H_way_16, e_H_way_17, lit, nad, nml, bd_s, ct_s, ct_n, a11, a01, aB2, bitA, nlt, nle, neq, dlT, dlF, deT, deF, dqT, dqF, nN, inb, nsb, ndv, nrm, if_true, if_false, ite_true, ite_false, true_and, and_true, and_self, and_false, false_and, or_true, true_or, or_false, false_or, or_self, ↓reduceIte, eq_self, Nat.reduceAdd, Nat.reduceMul, Nat.reduceSub, Nat.reduceDiv, Nat.reduceMod, Nat.zero_add, Nat.mul_zero, not_true_eq_false, not_false_eq_true, up_T, up_F, wr_T, wr_F, ngE, ngE', ngL, ngL', ngQ, ngQ', hh, we, a0, a1, f1, f5]
        · by_cases k1 : k = 1
          · simp (disch := omega) only [n_H_way, e_H_way_0, e_H_way_1, e_H_way_2, e_H_way_3, e_H_way_4, e_H_way_5, e_H_way_6, e_H_way_7, e_H_way_8, e_H_way_9, e_H_way_10, e_H_way_11, e_H_way_12, e_H_way_13, e_H_way_14, e_H_way_15, e_H_way_16, e_H_way_17, lit, nad, nml, bd_s, ct_s, ct_n, a11, a01, aB2, bitA, nlt, nle, neq, dlT, dlF, deT, deF, dqT, dqF, nN, inb, nsb, ndv, nrm, if_true, if_false, ite_true, ite_false, true_and, and_true, and_self, and_false, false_and, or_true, true_or, or_false, false_or, or_self, ↓reduceIte, eq_self, Nat.reduceAdd, Nat.reduceMul, Nat.reduceSub, Nat.reduceDiv, Nat.reduceMod, Nat.zero_add, Nat.mul_zero, not_true_eq_false, not_false_eq_true, up_T, up_F, wr_T, wr_F, ngE, ngE', ngL, ngL', ngQ, ngQ', hh, we, a0, a1, f1, f4]
          · by_cases k2 : k - 2 < dM A 99 to fr
            · have f7 := f6 (k - 2) k2
              simp (disch := omega) only [n_H_way, e_H_way_0, e_H_way_1, e_H_way_2, e_H_way_3, e_H_way_4, e_H_way_5, e_H_way_6, e_H_way_7, e_H_way_8, e_H_way_9, e_H_way_10, e_H_way_11, e_H_way_12, e_H_way_13, e_H_way_14, e_H_way_15, e_H_way_16, e_H_way_17, lit, nad, nml, bd_s, ct_s, ct_n, a11, a01, aB2, bitA, nlt, nle, neq, dlT, dlF, deT, deF, dqT, dqF, nN, inb, nsb, ndv, nrm, if_true, if_false, ite_true, ite_false, true_and, and_true, and_self, and_false, false_and, or_true, true_or, or_false, false_or, or_self, ↓reduceIte, eq_self, Nat.reduceAdd, Nat.reduceMul, Nat.reduceSub, Nat.reduceDiv, Nat.reduceMod, Nat.zero_add, Nat.mul_zero, not_true_eq_false, not_false_eq_true, up_T, up_F, wr_T, wr_F, ngE, ngE', ngL, ngL', ngQ, ngQ', hh, we, a0, a1, f1, f4, f7]
            · simp (disch := omega) only [n_H_way, e_H_way_0, e_H_way_1, e_H_way_2, e_H_way_3, e_H_way_4, e_H_way_5, e_H_way_6, e_H_way_7, e_H_way_8, e_H_way_9, e_H_way_10, e_H_way_11, e_H_way_12, e_H_way_13, e_H_way_14, e_H_way_15, e_H_way_16, e_H_way_17, lit, nad, nml, bd_s, ct_s, ct_n, a11, a01, aB2, bitA, nlt, nle, neq, dlT, dlF, deT, deF, dqT, dqF, nN, inb, nsb, ndv, nrm, if_true, if_false, ite_true, ite_false, true_and, and_true, and_self, and_false, false_and, or_true, true_or, or_false, false_or, or_self, ↓reduceIte, eq_self, Nat.reduceAdd, Nat.reduceMul, Nat.reduceSub, Nat.reduceDiv, Nat.reduceMod, Nat.zero_add, Nat.mul_zero, not_true_eq_false, not_false_eq_true, up_T, up_F, wr_T, wr_F, ngE, ngE', ngL, ngL', ngQ, ngQ', hh, we, a0, a1, f1, f4]
      · rw [if_neg hr] at f1 ⊢
        simp (disch := omega) only [n_H_way, e_H_way_0, e_H_way_1, e_H_way_2, e_H_way_3, e_H_way_4, e_H_way_5, e_H_way_6, e_H_way_7, e_H_way_8, e_H_way_9, e_H_way_10, e_H_way_11, e_H_way_12, e_H_way_13, e_H_way_14, e_H_way_15, e_H_way_16, e_H_way_17, lit, nad, nml, bd_s, ct_s, ct_n, a11, a01, aB2, bitA, nlt, nle, neq, dlT, dlF, deT, deF, dqT, dqF, nN, inb, nsb, ndv, nrm, if_true, if_false, ite_true, ite_false, true_and, and_true, and_self, and_false, false_and, or_true, true_or, or_false, false_or, or_self, ↓reduceIte, eq_self, Nat.reduceAdd, Nat.reduceMul, Nat.reduceSub, Nat.reduceDiv, Nat.reduceMod, Nat.zero_add, Nat.mul_zero, not_true_eq_false, not_false_eq_true, up_T, up_F, wr_T, wr_F, ngE, ngE', ngL, ngL', ngQ, ngQ', hh, we, a0, a1, f1]
    · simp only [if_neg e] at hh ⊢
      exact ⟨I, by simp (disch := omega) only [n_H_way, e_H_way_0, e_H_way_1, e_H_way_2, e_H_way_3, e_H_way_4, e_H_way_5, e_H_way_6, e_H_way_7, e_H_way_8, e_H_way_9, e_H_way_10, e_H_way_11, e_H_way_12, e_H_way_13, e_H_way_14, e_H_way_15, e_H_way_16, e_H_way_17, lit, nad, nml, bd_s, ct_s, ct_n, a11, a01, aB2, bitA, nlt, nle, neq, dlT, dlF, deT, deF, dqT, dqF, nN, inb, nsb, ndv, nrm, if_true, if_false, ite_true, ite_false, true_and, and_true, and_self, and_false, false_and, or_true, true_or, or_false, false_or, or_self, ↓reduceIte, eq_self, Nat.reduceAdd, Nat.reduceMul, Nat.reduceSub, Nat.reduceDiv, Nat.reduceMod, Nat.zero_add, Nat.mul_zero, not_true_eq_false, not_false_eq_true, up_T, up_F, wr_T, wr_F, ngE, ngE', ngL, ngL', ngQ, ngQ', hh], hC, F, fr_rf _ _⟩
  · have hb : A 0 0 1 ≤ 12 := g.2.1 0 (by decide)
    have hm : I 47 0 1 = nI (A 0 0 1) := hR.1 1 (by decide)
    have hwl := wl (n := A 0 0 1) hj (by omega)
    by_cases e : j < A 0 0 1
    · simp only [if_pos e]
      have gE := GE_of g
      obtain ⟨g0, g1, g2, g3⟩ := trG g e
      obtain ⟨I1, f1, f2, f2', f3⟩ := s_M_findWay (d + 195) j 99 A I hR g e (hzM h8)
      have hR1 : RepR 0 A I1 := RepR_o hR (by rw [f2 47 (by decide)])
      have t0 : I1 47 0 (156 + 3 * j) = nI (A 4 j 0) := hR1.2.2.2.2 0 j 0 (by decide) e (by decide)
      refine ⟨I1, ?_, hR1, fr_eqo f2 (by intro k hk i; unfold dM'; simp at hk; omega), k12_ex f2' (by decide)⟩
      unfold wayA
      generalize A 4 j 0 = fr at *
      generalize A 4 j 1 = to at *
      by_cases hr : ds A 99 to fr < 536870912
      · rw [if_pos hr] at f1 ⊢
        obtain ⟨f4, f5, f6⟩ := f3 hr
        have h9 := dM_9 gE (by omega) ((ds_F (x := 99) (to := to) gE (by omega)).2.mp hr)
        by_cases k0 : k = 0
        · simp (disch := omega) only [n_M_way, e_M_way_0, e_M_way_1, e_M_way_2, e_M_way_3, e_M_way_4, e_M_way_5, e_M_way_6, e_M_way_7, e_M_way_8, e_M_way_9, e_M_way_10, e_M_way_11, e_M_way_12, e_M_way_13, e_M_way_14, s_M_in, lit, hm, hwl, lit, nad, nml, bd_s, ct_s, ct_n, a11, a01, aB2, bitA, nlt, nle, neq, dlT, dlF, deT, deF, dqT, dqF, nN, inb, nsb, ndv, nrm, if_true, if_false, ite_true, ite_false, true_and, and_true, and_self, and_false, false_and, or_true, true_or, or_false, false_or, or_self, ↓reduceIte, eq_self, Nat.reduceAdd, Nat.reduceMul, Nat.reduceSub, Nat.reduceDiv, Nat.reduceMod, Nat.zero_add, Nat.mul_zero, not_true_eq_false, not_false_eq_true, up_T, up_F, wr_T, wr_F, ngE, ngE', ngL, ngL', ngQ, ngQ', f1, t0, f5]
        · by_cases k1 : k = 1
          · simp (disch := omega) only [n_M_way, e_M_way_0, e_M_way_1, e_M_way_2, e_M_way_3, e_M_way_4, e_M_way_5, e_M_way_6, e_M_way_7, e_M_way_8, e_M_way_9, e_M_way_10, e_M_way_11, e_M_way_12, e_M_way_13, e_M_way_14, s_M_in, lit, hm, hwl, lit, nad, nml, bd_s, ct_s, ct_n, a11, a01, aB2, bitA, nlt, nle, neq, dlT, dlF, deT, deF, dqT, dqF, nN, inb, nsb, ndv, nrm, if_true, if_false, ite_true, ite_false, true_and, and_true, and_self, and_false, false_and, or_true, true_or, or_false, false_or, or_self, ↓reduceIte, eq_self, Nat.reduceAdd, Nat.reduceMul, Nat.reduceSub, Nat.reduceDiv, Nat.reduceMod, Nat.zero_add, Nat.mul_zero, not_true_eq_false, not_false_eq_true, up_T, up_F, wr_T, wr_F, ngE, ngE', ngL, ngL', ngQ, ngQ', f1, f4]
          · by_cases k2 : k - 2 < dM A 99 to fr
            · have f7 := f6 (k - 2) k2
              simp (disch := omega) only [n_M_way, e_M_way_0, e_M_way_1, e_M_way_2, e_M_way_3, e_M_way_4, e_M_way_5, e_M_way_6, e_M_way_7, e_M_way_8, e_M_way_9, e_M_way_10, e_M_way_11, e_M_way_12, e_M_way_13, e_M_way_14, s_M_in, lit, hm, hwl, lit, nad, nml, bd_s, ct_s, ct_n, a11, a01, aB2, bitA, nlt, nle, neq, dlT, dlF, deT, deF, dqT, dqF, nN, inb, nsb, ndv, nrm, if_true, if_false, ite_true, ite_false, true_and, and_true, and_self, and_false, false_and, or_true, true_or, or_false, false_or, or_self, ↓reduceIte, eq_self, Nat.reduceAdd, Nat.reduceMul, Nat.reduceSub, Nat.reduceDiv, Nat.reduceMod, Nat.zero_add, Nat.mul_zero, not_true_eq_false, not_false_eq_true, up_T, up_F, wr_T, wr_F, ngE, ngE', ngL, ngL', ngQ, ngQ', f1, f4, f7]
            · simp (disch := omega) only [n_M_way, e_M_way_0, e_M_way_1, e_M_way_2, e_M_way_3, e_M_way_4, e_M_way_5, e_M_way_6, e_M_way_7, e_M_way_8, e_M_way_9, e_M_way_10, e_M_way_11, e_M_way_12, e_M_way_13, e_M_way_14, s_M_in, lit, hm, hwl, lit, nad, nml, bd_s, ct_s, ct_n, a11, a01, aB2, bitA, nlt, nle, neq, dlT, dlF, deT, deF, dqT, dqF, nN, inb, nsb, ndv, nrm, if_true, if_false, ite_true, ite_false, true_and, and_true, and_self, and_false, false_and, or_true, true_or, or_false, false_or, or_self, ↓reduceIte, eq_self, Nat.reduceAdd, Nat.reduceMul, Nat.reduceSub, Nat.reduceDiv, Nat.reduceMod, Nat.zero_add, Nat.mul_zero, not_true_eq_false, not_false_eq_true, up_T, up_F, wr_T, wr_F, ngE, ngE', ngL, ngL', ngQ, ngQ', f1, f4]
      · rw [if_neg hr] at f1 ⊢
        simp (disch := omega) only [n_M_way, e_M_way_0, e_M_way_1, e_M_way_2, e_M_way_3, e_M_way_4, e_M_way_5, e_M_way_6, e_M_way_7, e_M_way_8, e_M_way_9, e_M_way_10, e_M_way_11, e_M_way_12, e_M_way_13, e_M_way_14, s_M_in, lit, hm, hwl, lit, nad, nml, bd_s, ct_s, ct_n, a11, a01, aB2, bitA, nlt, nle, neq, dlT, dlF, deT, deF, dqT, dqF, nN, inb, nsb, ndv, nrm, if_true, if_false, ite_true, ite_false, true_and, and_true, and_self, and_false, false_and, or_true, true_or, or_false, false_or, or_self, ↓reduceIte, eq_self, Nat.reduceAdd, Nat.reduceMul, Nat.reduceSub, Nat.reduceDiv, Nat.reduceMod, Nat.zero_add, Nat.mul_zero, not_true_eq_false, not_false_eq_true, up_T, up_F, wr_T, wr_F, ngE, ngE', ngL, ngL', ngQ, ngQ', f1]
    · simp only [if_neg e]
      exact ⟨I, by simp (disch := omega) only [n_M_way, e_M_way_0, e_M_way_1, e_M_way_2, e_M_way_3, e_M_way_4, e_M_way_5, e_M_way_6, e_M_way_7, e_M_way_8, e_M_way_9, e_M_way_10, e_M_way_11, e_M_way_12, e_M_way_13, e_M_way_14, s_M_in, lit, hm, hwl, lit, nad, nml, bd_s, ct_s, ct_n, a11, a01, aB2, bitA, nlt, nle, neq, dlT, dlF, deT, deF, dqT, dqF, nN, inb, nsb, ndv, nrm, if_true, if_false, ite_true, ite_false, true_and, and_true, and_self, and_false, false_and, or_true, true_or, or_false, false_or, or_self, ↓reduceIte, eq_self, Nat.reduceAdd, Nat.reduceMul, Nat.reduceSub, Nat.reduceDiv, Nat.reduceMod, Nat.zero_add, Nat.mul_zero, not_true_eq_false, not_false_eq_true, up_T, up_F, wr_T, wr_F, ngE, ngE', ngL, ngL', ngQ, ngQ'], hR, fr_rf _ _, k12_rf _⟩
/-! the told ones are forgotten -/
theorem RepC_clr {A : mm_A} {I : mm_I} (hC : RepC 0 A I) : RepC 0 (sA A 0 0 4 0) (mm_up I 7 2 3 (nI 0)) := by
  obtain ⟨⟨a1, a2, a3, a4, a5⟩, h2, h3, h4, h5, h6⟩ := hC
  have e : ∀ t, t < 7 → t ≠ 2 → sA A 0 0 4 0 0 0 (tH t) = A 0 0 (tH t) := fun t ht h => sA_F (by rcases t7 ht with e | e | e | e | e | e | e <;> subst e <;> first | exact absurd rfl h | decide)
  unfold RepC
  rw [sA_F (show ¬ (0 = 0 ∧ 0 = 0 ∧ 0 = 4) by decide), sA_F (show ¬ (0 = 0 ∧ 0 = 0 ∧ 2 = 4) by decide), sA_F (show ¬ (0 = 0 ∧ 0 = 0 ∧ 9 = 4) by decide), sA_F (show ¬ (0 = 0 ∧ 0 = 0 ∧ 10 = 4) by decide), sA_F (show ¬ (0 = 0 ∧ 0 = 0 ∧ 11 = 4) by decide), sA_o (show 1 ≠ 0 by decide), sA_o (show 2 ≠ 0 by decide), sA_o (show 3 ≠ 0 by decide)]
  refine ⟨by simp (disch := omega) only [up_F]; exact ⟨a1, a2, a3, a4, a5⟩, fun t ht => ?_, fun p' hp' => StC_c (h3 p' hp') (by funext j; exact up_F (by omega)), fun y hy => by rw [up_F (by omega)]; exact h4 y hy, fun r hr => by simp (disch := omega) only [up_F]; exact h5 r hr, fun t r c ht hr hc => ?_⟩
  · by_cases q : t = 2
    · subst q; rfl
    · rw [up_F (by omega), e t ht q]; exact h2 t ht
  · by_cases q : t = 2
    · subst q
      have : r < 0 := hr
      omega
    · rw [e t ht q] at hr
      rw [up_F (by omega), sA_o (by omega)]
      exact h6 t r c ht hr hc
theorem RepR_clr {A : mm_A} {I : mm_I} (hR : RepR 0 A I) (g : Good A) : RepR 0 (sA A 0 0 4 0) (mm_up I 47 0 4 (nI 0)) := by
  obtain ⟨h1, h2, h3, h4, h5⟩ := hR
  have hN := g.1.1
  have hX := g.1.2.1
  have e : ∀ t, t < 7 → t ≠ 2 → sA A 0 0 4 0 0 0 (tH t) = A 0 0 (tH t) := fun t ht h => sA_F (by rcases t7 ht with e | e | e | e | e | e | e <;> subst e <;> first | exact absurd rfl h | decide)
  unfold RepR
  rw [sA_F (show ¬ (0 = 0 ∧ 0 = 0 ∧ 0 = 4) by decide), sA_F (show ¬ (0 = 0 ∧ 0 = 0 ∧ 2 = 4) by decide), sA_o (show 1 ≠ 0 by decide), sA_o (show 2 ≠ 0 by decide), sA_o (show 3 ≠ 0 by decide)]
  refine ⟨fun c' hc' => ?_, fun p' c' hp' hc' => by rw [up_F (by omega)]; exact h2 p' c' hp' hc', fun y hy => by rw [up_F (by omega)]; exact h3 y hy, fun r hr => ?_, fun t' r' c' ht' hr' hc' => ?_⟩
  · by_cases q : c' = 4
    · rw [q, up_s, sA_s]
    · rw [up_F (by omega), sA_F (by omega)]; exact h1 c' hc'
  · simp (disch := omega) only [up_F]; exact h4 r hr
  · by_cases q : t' = 2
    · subst q
      have : r' < 0 := hr'
      omega
    · rw [e t' ht' q] at hr'
      have := adr_in ht' (Nat.lt_of_lt_of_le hr' (g.2.1 t' ht')) hc'
      rw [up_F (by omega), sA_o (by omega)]
      exact h5 t' r' c' ht' hr' hc'
theorem Good_clr {A : mm_A} (g : Good A) : Good (sA A 0 0 4 0) := by
  have e : ∀ c, c ≠ 4 → sA A 0 0 4 0 0 0 c = A 0 0 c := fun c h => sA_F (by omega)
  have e4 : ∀ t, t < 7 → t ≠ 2 → sA A 0 0 4 0 0 0 (tH t) = A 0 0 (tH t) := fun t ht h => e _ (by rcases t7 ht with e | e | e | e | e | e | e <;> subst e <;> first | exact absurd rfl h | decide)
  refine Good_mk ?_ ?_ ?_ ?_ ?_ ?_
  · rw [e 0 (by decide), e 2 (by decide), e 9 (by decide), e 10 (by decide), e 11 (by decide)]; exact g.1
  · intro t ht
    by_cases q : t = 2
    · subst q; exact Nat.zero_le _
    · rw [e4 t ht q]; exact g.2.1 t ht
  · rw [e 0 (by decide), sA_o (show 1 ≠ 0 by decide)]; exact g.2.2.1
  · rw [sA_o (show 2 ≠ 0 by decide)]; exact g.2.2.2.1
  · unfold cods; rw [e 2 (by decide), sA_o (show 3 ≠ 0 by decide)]; exact g.2.2.2.2.1
  · intro t r ht hr
    rw [e 0 (by decide), sA_o (by omega)]
    by_cases q : t = 2
    · subst q
      have : r < 0 := hr
      omega
    · rw [e4 t ht q] at hr; exact Good_row g ht hr
theorem Ok_clear (d : Nat) : Ok (d + 200) q_H_clear q_M_clear [] := by
  refine call_hill (fun A => nI (A 0 0 4)) (fun A => sA A 0 0 4 0) (fun A I hC F g _ => ⟨mm_up I 7 2 3 (nI 0), ?_, RepC_clr hC, Fix_up F (by omega), fr_up (fr_rf _ _) (by unfold dC hc; omega)⟩) (fun A I hR g _ _ => ⟨mm_up I 47 0 4 (nI 0), ?_, RepR_clr hR g, fr_up (fr_rf _ _) (by unfold dM'; omega), k12_up (by decide)⟩) (fun A g h => ⟨Good_clr g, by rw [sA_F (by decide)]; exact h, by rw [sA_F (by decide)]⟩)
  · have hm : I 7 2 3 = nI (A 0 0 4) := c0_mn hC (t := 2) (by decide)
    simp (disch := omega) only [n_H_clear, e_H_clear_0, lit, nad, nml, bd_s, ct_s, ct_n, a11, a01, aB2, bitA, nlt, nle, neq, dlT, dlF, deT, deF, dqT, dqF, nN, inb, nsb, ndv, nrm, if_true, if_false, ite_true, ite_false, true_and, and_true, and_self, and_false, false_and, or_true, true_or, or_false, false_or, or_self, ↓reduceIte, eq_self, Nat.reduceAdd, Nat.reduceMul, Nat.reduceSub, Nat.reduceDiv, Nat.reduceMod, Nat.zero_add, Nat.mul_zero, not_true_eq_false, not_false_eq_true, up_T, up_F, wr_T, wr_F, ngE, ngE', ngL, ngL', ngQ, ngQ', hm]
  · have hm : I 47 0 4 = nI (A 0 0 4) := hR.1 4 (by decide)
    simp (disch := omega) only [n_M_clear, e_M_clear_0, lit, nad, nml, bd_s, ct_s, ct_n, a11, a01, aB2, bitA, nlt, nle, neq, dlT, dlF, deT, deF, dqT, dqF, nN, inb, nsb, ndv, nrm, if_true, if_false, ite_true, ite_false, true_and, and_true, and_self, and_false, false_and, or_true, true_or, or_false, false_or, or_self, ↓reduceIte, eq_self, Nat.reduceAdd, Nat.reduceMul, Nat.reduceSub, Nat.reduceDiv, Nat.reduceMod, Nat.zero_add, Nat.mul_zero, not_true_eq_false, not_false_eq_true, up_T, up_F, wr_T, wr_F, ngE, ngE', ngL, ngL', ngQ, ngQ', hm]
theorem Ok_choose (d : Nat) (t : Int32) : Ok (d + 200) q_H_choose q_M_choose [.inl t] := by
  rcases ix t with ht | ⟨j, hj, ht⟩
  · refine call_id (fun _ => -nI 1000000001) (fun A I _ _ _ _ => ?_) (fun A I hR _ _ _ => ?_)
    · simp (disch := omega) only [n_H_choose, e_H_choose_0, e_H_choose_1, e_H_choose_2, e_H_choose_3, e_H_choose_4, e_H_choose_5, e_H_choose_6, e_H_choose_7, e_H_choose_8, e_H_choose_9, e_H_choose_10, e_H_choose_11, e_H_choose_12, e_H_choose_13, s_H_isStretchN _ _ _ ht, lit, nad, nml, bd_s, ct_s, ct_n, a11, a01, aB2, bitA, nlt, nle, neq, dlT, dlF, deT, deF, dqT, dqF, nN, inb, nsb, ndv, nrm, if_true, if_false, ite_true, ite_false, true_and, and_true, and_self, and_false, false_and, or_true, true_or, or_false, false_or, or_self, ↓reduceIte, eq_self, Nat.reduceAdd, Nat.reduceMul, Nat.reduceSub, Nat.reduceDiv, Nat.reduceMod, Nat.zero_add, Nat.mul_zero, not_true_eq_false, not_false_eq_true, up_T, up_F, wr_T, wr_F, ngE, ngE', ngL, ngL', ngQ, ngQ']
    · simp (disch := omega) only [n_M_choose, e_M_choose_0, e_M_choose_1, e_M_choose_2, e_M_choose_3, e_M_choose_4, e_M_choose_5, e_M_choose_6, e_M_choose_7, e_M_choose_8, e_M_choose_9, e_M_choose_10, s_M_isPathN _ _ _ ht, lit, nad, nml, bd_s, ct_s, ct_n, a11, a01, aB2, bitA, nlt, nle, neq, dlT, dlF, deT, deF, dqT, dqF, nN, inb, nsb, ndv, nrm, if_true, if_false, ite_true, ite_false, true_and, and_true, and_self, and_false, false_and, or_true, true_or, or_false, false_or, or_self, ↓reduceIte, eq_self, Nat.reduceAdd, Nat.reduceMul, Nat.reduceSub, Nat.reduceDiv, Nat.reduceMod, Nat.zero_add, Nat.mul_zero, not_true_eq_false, not_false_eq_true, up_T, up_F, wr_T, wr_F, ngE, ngE', ngL, ngL', ngQ, ngQ']
  subst ht
  refine call_hill (fun A => if j < A 0 0 0 then (if an (fun k => A 6 k 0 == j) (A 0 0 4) = true then -nI 1000000002 else if A 0 0 4 < 6 then nI (A 0 0 4 + 1) else -nI 1000000003) else -nI 1000000001) (fun A => if j < A 0 0 0 then (if an (fun k => A 6 k 0 == j) (A 0 0 4) = true then A else if A 0 0 4 < 6 then rowA A 2 j 0 0 else A) else A) (fun A I hC F g _ => ?_) (fun A I hR g _ h8 => ?_) (fun A g h => ?_)
  · have hn := g.1.1
    have hh := s_H_isStretch (d + 197) j A I hC g hj
    have hc6 : A 0 0 4 ≤ 6 := g.2.1 2 (by decide)
    have hm : I 7 2 3 = nI (A 0 0 4) := c0_mn hC (t := 2) (by decide)
    have hf : I 7 2 1 = nI 6 := (F 2 (by decide)).1
    by_cases e : j < A 0 0 0
    · simp only [if_pos e] at hh ⊢
      have k0 : Sn (d + 200) q_H_choose [.inr (11, 0), .inl (nI j)] I = Rn (d + 199) q_H_choose 4 [some (.inr (11, 0)), some (.inl (nI j)), some (.inl (nI 0))] [] I := by
        simp (disch := omega) only [n_H_choose, e_H_choose_0, e_H_choose_1, e_H_choose_3, lit, nad, nml, bd_s, ct_s, ct_n, a11, a01, aB2, bitA, nlt, nle, neq, dlT, dlF, deT, deF, dqT, dqF, nN, inb, nsb, ndv, nrm, if_true, if_false, ite_true, ite_false, true_and, and_true, and_self, and_false, false_and, or_true, true_or, or_false, false_or, or_self, ↓reduceIte, eq_self, Nat.reduceAdd, Nat.reduceMul, Nat.reduceSub, Nat.reduceDiv, Nat.reduceMod, Nat.zero_add, Nat.mul_zero, not_true_eq_false, not_false_eq_true, up_T, up_F, wr_T, wr_F, ngE, ngE', ngL, ngL', ngQ, ngQ', hh]
      rw [k0]
      refine lpX (n := A 0 0 4) (σ := Unit) (fun i _ => Rn (d + 199) q_H_choose 4 [some (.inr (11, 0)), some (.inl (nI j)), some (.inl (nI i))] [] I) (fun i _ => ∀ k, k < i → A 6 k 0 ≠ j) (fun q => ∃ I1, q = some (some (.inl (if an (fun k => A 6 k 0 == j) (A 0 0 4) = true then -nI 1000000002 else if A 0 0 4 < 6 then nI (A 0 0 4 + 1) else -nI 1000000003)), (sh0, I1)) ∧ RepC 0 (if an (fun k => A 6 k 0 == j) (A 0 0 4) = true then A else if A 0 0 4 < 6 then rowA A 2 j 0 0 else A) I1 ∧ Fix I1 ∧ fr dC I I1) ?_ ?_ 0 () (Nat.zero_le _) (fun k hk => by omega)
      · intro i _ hi hV
        have ha := s_at0 (d + 197) 2 i 0 A I hC F g (by decide) hi (by decide)
        have hcb := chG g hi
        by_cases q : A 6 i 0 = j
        · left
          have hA : an (fun k => A 6 k 0 == j) (A 0 0 4) = true := an_iff.mpr ⟨i, hi, by simp [q]⟩
          simp only [hA, if_true]
          refine ⟨I, ?_, hC, F, fr_rf _ _⟩
          simp (disch := omega) only [e_H_choose_5, e_H_choose_6, e_H_choose_7, e_H_choose_4 (x2 := nI i), lit, nad, nml, bd_s, ct_s, ct_n, a11, a01, aB2, bitA, nlt, nle, neq, dlT, dlF, deT, deF, dqT, dqF, nN, inb, nsb, ndv, nrm, if_true, if_false, ite_true, ite_false, true_and, and_true, and_self, and_false, false_and, or_true, true_or, or_false, false_or, or_self, ↓reduceIte, eq_self, Nat.reduceAdd, Nat.reduceMul, Nat.reduceSub, Nat.reduceDiv, Nat.reduceMod, Nat.zero_add, Nat.mul_zero, not_true_eq_false, not_false_eq_true, up_T, up_F, wr_T, wr_F, ngE, ngE', ngL, ngL', ngQ, ngQ', hm, ha]
        · right
          refine ⟨(), fun k hk => ?_, ?_⟩
          · rcases Nat.lt_or_ge k i with z | z
            · exact hV k z
            · rw [show k = i by omega]; exact q
          · simp (disch := omega) only [e_H_choose_5, e_H_choose_6, e_H_choose_8, e_H_choose_4 (x2 := nI i), lit, nad, nml, bd_s, ct_s, ct_n, a11, a01, aB2, bitA, nlt, nle, neq, dlT, dlF, deT, deF, dqT, dqF, nN, inb, nsb, ndv, nrm, if_true, if_false, ite_true, ite_false, true_and, and_true, and_self, and_false, false_and, or_true, true_or, or_false, false_or, or_self, ↓reduceIte, eq_self, Nat.reduceAdd, Nat.reduceMul, Nat.reduceSub, Nat.reduceDiv, Nat.reduceMod, Nat.zero_add, Nat.mul_zero, not_true_eq_false, not_false_eq_true, up_T, up_F, wr_T, wr_F, ngE, ngE', ngL, ngL', ngQ, ngQ', hm, ha]
      · intro _ hV
        have hA : an (fun k => A 6 k 0 == j) (A 0 0 4) = false := by
          cases q : an (fun k => A 6 k 0 == j) (A 0 0 4) with
          | false => rfl
          | true =>
            obtain ⟨i, h1, h2⟩ := an_iff.mp q
            exact absurd (by simpa using h2) (hV i h1)
        simp only [hA, Bool.false_eq_true, if_false]
        have hfu := s_Rows_isFull (d + 198) 2 (A 0 0 4) 6 I hf hm (by omega) (by decide)
        have ha := s_add0 (d + 195) 2 j 0 0 A I hC F g (by decide)
        by_cases e6 : A 0 0 4 < 6
        · rw [if_pos (show A 0 0 (tH 2) < tM 2 from e6)] at ha
          rw [if_pos e6] at hfu
          simp only [if_pos e6]
          refine ⟨_, ?_, RepC_add0 hC (t := 2) (by decide), Fix_add F, fr_add (by decide)⟩
          simp (disch := omega) only [e_H_choose_4, e_H_choose_9, e_H_choose_10, e_H_choose_12, e_H_choose_13, lit, nad, nml, bd_s, ct_s, ct_n, a11, a01, aB2, bitA, nlt, nle, neq, dlT, dlF, deT, deF, dqT, dqF, nN, inb, nsb, ndv, nrm, if_true, if_false, ite_true, ite_false, true_and, and_true, and_self, and_false, false_and, or_true, true_or, or_false, false_or, or_self, ↓reduceIte, eq_self, Nat.reduceAdd, Nat.reduceMul, Nat.reduceSub, Nat.reduceDiv, Nat.reduceMod, Nat.zero_add, Nat.mul_zero, not_true_eq_false, not_false_eq_true, up_T, up_F, wr_T, wr_F, ngE, ngE', ngL, ngL', ngQ, ngQ', hm, hfu, ha]
          rfl
        · rw [if_neg e6] at hfu
          simp only [if_neg e6]
          refine ⟨I, ?_, hC, F, fr_rf _ _⟩
          simp (disch := omega) only [e_H_choose_4, e_H_choose_9, e_H_choose_10, e_H_choose_11, lit, nad, nml, bd_s, ct_s, ct_n, a11, a01, aB2, bitA, nlt, nle, neq, dlT, dlF, deT, deF, dqT, dqF, nN, inb, nsb, ndv, nrm, if_true, if_false, ite_true, ite_false, true_and, and_true, and_self, and_false, false_and, or_true, true_or, or_false, false_or, or_self, ↓reduceIte, eq_self, Nat.reduceAdd, Nat.reduceMul, Nat.reduceSub, Nat.reduceDiv, Nat.reduceMod, Nat.zero_add, Nat.mul_zero, not_true_eq_false, not_false_eq_true, up_T, up_F, wr_T, wr_F, ngE, ngE', ngL, ngL', ngQ, ngQ', hm, hfu]
    · simp only [if_neg e] at hh ⊢
      exact ⟨I, by simp (disch := omega) only [n_H_choose, e_H_choose_0, e_H_choose_1, e_H_choose_2, lit, nad, nml, bd_s, ct_s, ct_n, a11, a01, aB2, bitA, nlt, nle, neq, dlT, dlF, deT, deF, dqT, dqF, nN, inb, nsb, ndv, nrm, if_true, if_false, ite_true, ite_false, true_and, and_true, and_self, and_false, false_and, or_true, true_or, or_false, false_or, or_self, ↓reduceIte, eq_self, Nat.reduceAdd, Nat.reduceMul, Nat.reduceSub, Nat.reduceDiv, Nat.reduceMod, Nat.zero_add, Nat.mul_zero, not_true_eq_false, not_false_eq_true, up_T, up_F, wr_T, wr_F, ngE, ngE', ngL, ngL', ngQ, ngQ', hh], hC, F, fr_rf _ _⟩
  · have hn := g.1.1
    have hh := s_M_isPath (d + 197) j A I hR g hj
    have hc6 : A 0 0 4 ≤ 6 := g.2.1 2 (by decide)
    have hm : I 47 0 4 = nI (A 0 0 4) := hR.1 4 (by decide)
    by_cases e : j < A 0 0 0
    · simp only [if_pos e] at hh ⊢
      have k0 : Sn (d + 200) q_M_choose [.inr (12, 0), .inl (nI j)] I = Rn (d + 199) q_M_choose 4 [some (.inr (12, 0)), some (.inl (nI j)), some (.inl (nI 0))] [] I := by
        simp (disch := omega) only [n_M_choose, e_M_choose_0, e_M_choose_1, e_M_choose_3, lit, nad, nml, bd_s, ct_s, ct_n, a11, a01, aB2, bitA, nlt, nle, neq, dlT, dlF, deT, deF, dqT, dqF, nN, inb, nsb, ndv, nrm, if_true, if_false, ite_true, ite_false, true_and, and_true, and_self, and_false, false_and, or_true, true_or, or_false, false_or, or_self, ↓reduceIte, eq_self, Nat.reduceAdd, Nat.reduceMul, Nat.reduceSub, Nat.reduceDiv, Nat.reduceMod, Nat.zero_add, Nat.mul_zero, not_true_eq_false, not_false_eq_true, up_T, up_F, wr_T, wr_F, ngE, ngE', ngL, ngL', ngQ, ngQ', hh]
      rw [k0]
      refine lpX (n := A 0 0 4) (σ := Unit) (fun i _ => Rn (d + 199) q_M_choose 4 [some (.inr (12, 0)), some (.inl (nI j)), some (.inl (nI i))] [] I) (fun i _ => ∀ k, k < i → A 6 k 0 ≠ j) (fun q => ∃ I1, q = some (some (.inl (if an (fun k => A 6 k 0 == j) (A 0 0 4) = true then -nI 1000000002 else if A 0 0 4 < 6 then nI (A 0 0 4 + 1) else -nI 1000000003)), (sh0, I1)) ∧ RepR 0 (if an (fun k => A 6 k 0 == j) (A 0 0 4) = true then A else if A 0 0 4 < 6 then rowA A 2 j 0 0 else A) I1 ∧ fr dM' I I1 ∧ k12 I I1) ?_ ?_ 0 () (Nat.zero_le _) (fun k hk => by omega)
      · intro i _ hi hV
        have ha : I 47 0 (272 + i) = nI (A 6 i 0) := by
          have := hR.2.2.2.2 2 i 0 (by decide) hi (by decide)
          rw [show tB 2 = 272 from rfl, show tW 2 = 1 from rfl, Nat.one_mul, Nat.add_zero] at this
          exact this
        have hcb := chG g hi
        by_cases q : A 6 i 0 = j
        · left
          have hA : an (fun k => A 6 k 0 == j) (A 0 0 4) = true := an_iff.mpr ⟨i, hi, by simp [q]⟩
          simp only [hA, if_true]
          refine ⟨I, ?_, hR, fr_rf _ _, k12_rf _⟩
          simp (disch := omega) only [e_M_choose_5, e_M_choose_6, e_M_choose_4 (x2 := nI i), lit, nad, nml, bd_s, ct_s, ct_n, a11, a01, aB2, bitA, nlt, nle, neq, dlT, dlF, deT, deF, dqT, dqF, nN, inb, nsb, ndv, nrm, if_true, if_false, ite_true, ite_false, true_and, and_true, and_self, and_false, false_and, or_true, true_or, or_false, false_or, or_self, ↓reduceIte, eq_self, Nat.reduceAdd, Nat.reduceMul, Nat.reduceSub, Nat.reduceDiv, Nat.reduceMod, Nat.zero_add, Nat.mul_zero, not_true_eq_false, not_false_eq_true, up_T, up_F, wr_T, wr_F, ngE, ngE', ngL, ngL', ngQ, ngQ', hm, ha]
        · right
          refine ⟨(), fun k hk => ?_, ?_⟩
          · rcases Nat.lt_or_ge k i with z | z
            · exact hV k z
            · rw [show k = i by omega]; exact q
          · simp (disch := omega) only [e_M_choose_5, e_M_choose_7, e_M_choose_4 (x2 := nI i), lit, nad, nml, bd_s, ct_s, ct_n, a11, a01, aB2, bitA, nlt, nle, neq, dlT, dlF, deT, deF, dqT, dqF, nN, inb, nsb, ndv, nrm, if_true, if_false, ite_true, ite_false, true_and, and_true, and_self, and_false, false_and, or_true, true_or, or_false, false_or, or_self, ↓reduceIte, eq_self, Nat.reduceAdd, Nat.reduceMul, Nat.reduceSub, Nat.reduceDiv, Nat.reduceMod, Nat.zero_add, Nat.mul_zero, not_true_eq_false, not_false_eq_true, up_T, up_F, wr_T, wr_F, ngE, ngE', ngL, ngL', ngQ, ngQ', hm, ha]
      · intro _ hV
        have hA : an (fun k => A 6 k 0 == j) (A 0 0 4) = false := by
          cases q : an (fun k => A 6 k 0 == j) (A 0 0 4) with
          | false => rfl
          | true =>
            obtain ⟨i, h1, h2⟩ := an_iff.mp q
            exact absurd (by simpa using h2) (hV i h1)
        simp only [hA, Bool.false_eq_true, if_false]
        by_cases e6 : A 0 0 4 < 6
        · simp only [if_pos e6]
          refine ⟨mm_up (mm_up I 47 0 (272 + A 0 0 4) (nI j)) 47 0 4 (nI (A 0 0 4 + 1)), ?_, RepR_add (t := 2) hR g (by decide) e6 (up_s _ _ _ _ _) (fun c hc => ?_) (fun i i1 i2 => ?_), ?_, ?_⟩
          · simp (disch := omega) only [e_M_choose_4, e_M_choose_8, e_M_choose_10, lit, nad, nml, bd_s, ct_s, ct_n, a11, a01, aB2, bitA, nlt, nle, neq, dlT, dlF, deT, deF, dqT, dqF, nN, inb, nsb, ndv, nrm, if_true, if_false, ite_true, ite_false, true_and, and_true, and_self, and_false, false_and, or_true, true_or, or_false, false_or, or_self, ↓reduceIte, eq_self, Nat.reduceAdd, Nat.reduceMul, Nat.reduceSub, Nat.reduceDiv, Nat.reduceMod, Nat.zero_add, Nat.mul_zero, not_true_eq_false, not_false_eq_true, up_T, up_F, wr_T, wr_F, ngE, ngE', ngL, ngL', ngQ, ngQ', hm]
          · have : c < 1 := hc
            rw [show c = 0 by omega]
            show mm_up _ 47 0 4 _ 47 0 (272 + 1 * A 0 0 4 + 0) = _
            simp (disch := omega) only [up_T, up_F]
            rfl
          · have i3 : i ≠ 4 := i1
            have i4 : ¬ (272 + 1 * A 0 0 4 ≤ i ∧ i < 272 + 1 * A 0 0 4 + 1) := i2
            simp (disch := omega) only [up_F]
          · exact fr_up (fr_up (fr_rf _ _) (by unfold dM'; omega)) (by unfold dM'; omega)
          · exact k12_of (by funext i j'; simp (disch := omega) only [up_F])
        · simp only [if_neg e6]
          exact ⟨I, by simp (disch := omega) only [e_M_choose_4, e_M_choose_8, e_M_choose_9, lit, nad, nml, bd_s, ct_s, ct_n, a11, a01, aB2, bitA, nlt, nle, neq, dlT, dlF, deT, deF, dqT, dqF, nN, inb, nsb, ndv, nrm, if_true, if_false, ite_true, ite_false, true_and, and_true, and_self, and_false, false_and, or_true, true_or, or_false, false_or, or_self, ↓reduceIte, eq_self, Nat.reduceAdd, Nat.reduceMul, Nat.reduceSub, Nat.reduceDiv, Nat.reduceMod, Nat.zero_add, Nat.mul_zero, not_true_eq_false, not_false_eq_true, up_T, up_F, wr_T, wr_F, ngE, ngE', ngL, ngL', ngQ, ngQ', hm], hR, fr_rf _ _, k12_rf _⟩
    · simp only [if_neg e] at hh ⊢
      exact ⟨I, by simp (disch := omega) only [n_M_choose, e_M_choose_0, e_M_choose_1, e_M_choose_2, lit, nad, nml, bd_s, ct_s, ct_n, a11, a01, aB2, bitA, nlt, nle, neq, dlT, dlF, deT, deF, dqT, dqF, nN, inb, nsb, ndv, nrm, if_true, if_false, ite_true, ite_false, true_and, and_true, and_self, and_false, false_and, or_true, true_or, or_false, false_or, or_self, ↓reduceIte, eq_self, Nat.reduceAdd, Nat.reduceMul, Nat.reduceSub, Nat.reduceDiv, Nat.reduceMod, Nat.zero_add, Nat.mul_zero, not_true_eq_false, not_false_eq_true, up_T, up_F, wr_T, wr_F, ngE, ngE', ngL, ngL', ngQ, ngQ', hh], hR, fr_rf _ _, k12_rf _⟩
  · split
    · rename_i e
      split
      · exact ⟨g, h, rfl⟩
      · split
        · rename_i e6
          refine ⟨Good_add g (by decide) e6 ?_, by rw [rowA_0 (by decide)]; exact h, rowA_0 (by decide)⟩
          unfold rowG ro3
          exact ⟨fun q => by omega, fun q => by omega, fun _ => e, fun q => by omega, fun q => by omega, fun q => by omega, fun q => by omega⟩
        · exact ⟨g, h, rfl⟩
    · exact ⟨g, h, rfl⟩
