/-! Calls: boots, mendTold, as, set, told, way, without. -/
theorem s_Rows_hasN (d r : Nat) (x : Int32) (I : mm_I) (hx : x < nI 0) : Sn (d + 1) q_Rows_has [.inr (7, r), .inl x] I = some (some (.inl (nI 0)), (sh0, I)) := by
  simp (disch := omega) only [n_Rows_has, e_Rows_has_0, e_Rows_has_1, e_Rows_has_2, e_Rows_has_3, e_Rows_has_4, lit, nad, nml, bd_s, ct_s, ct_n, a11, a01, aB2, bitA, nlt, nle, neq, dlT, dlF, deT, deF, dqT, dqF, nN, inb, nsb, ndv, nrm, if_true, if_false, ite_true, ite_false, true_and, and_true, and_self, and_false, false_and, or_true, true_or, or_false, false_or, or_self, reduceIte, eq_self, Nat.reduceAdd, Nat.reduceMul, Nat.reduceSub, Nat.reduceDiv, Nat.reduceMod, Nat.zero_add, Nat.mul_zero, not_true_eq_false, not_false_eq_true, up_T, up_F, wr_T, wr_F, ngE, ngE', ngL, ngL', ngQ, ngQ', hx]
theorem wl {j n : Nat} (hj : j < 2147483648) (hn : n < 1000000) : (nI j ≤ nI n - nI 1) = (j < n) := by
  have := wj hj hn
  rw [← this, nle (by decide) hj]
  exact propext ⟨fun q => ⟨Nat.zero_le _, q⟩, fun q => q.2⟩
theorem k12_up {I : mm_I} {k i j : Nat} {x : Int32} (h : k ≠ 12) : k12 I (mm_up I k i j x) := k12_of (by funext i' j'; exact up_F (by omega))
theorem Ok_boots (d : Nat) (t b : Int32) : Ok (d + 200) q_H_boots q_M_boots [.inl t, .inl b] := by
  rcases ix t with ht | ⟨j, hj, ht⟩
  · refine call_id (fun _ => -nI 1000000001) (fun A I _ _ _ _ => ?_) (fun A I hR _ _ _ => ?_)
    · simp (disch := omega) only [n_H_boots, e_H_boots_0, e_H_boots_1, e_H_boots_2, e_H_boots_3, e_H_boots_4, e_H_boots_5, e_H_boots_6, s_Rows_hasN _ _ _ _ ht, lit, nad, nml, bd_s, ct_s, ct_n, a11, a01, aB2, bitA, nlt, nle, neq, dlT, dlF, deT, deF, dqT, dqF, nN, inb, nsb, ndv, nrm, if_true, if_false, ite_true, ite_false, true_and, and_true, and_self, and_false, false_and, or_true, true_or, or_false, false_or, or_self, reduceIte, eq_self, Nat.reduceAdd, Nat.reduceMul, Nat.reduceSub, Nat.reduceDiv, Nat.reduceMod, Nat.zero_add, Nat.mul_zero, not_true_eq_false, not_false_eq_true, up_T, up_F, wr_T, wr_F, ngE, ngE', ngL, ngL', ngQ, ngQ']
    · simp (disch := omega) only [n_M_boots, e_M_boots_0, e_M_boots_1, e_M_boots_2, e_M_boots_3, e_M_boots_4, e_M_boots_5, s_M_in, lit, nad, nml, bd_s, ct_s, ct_n, a11, a01, aB2, bitA, nlt, nle, neq, dlT, dlF, deT, deF, dqT, dqF, nN, inb, nsb, ndv, nrm, if_true, if_false, ite_true, ite_false, true_and, and_true, and_self, and_false, false_and, or_true, true_or, or_false, false_or, or_self, reduceIte, eq_self, Nat.reduceAdd, Nat.reduceMul, Nat.reduceSub, Nat.reduceDiv, Nat.reduceMod, Nat.zero_add, Nat.mul_zero, not_true_eq_false, not_false_eq_true, up_T, up_F, wr_T, wr_F, ngE, ngE', ngL, ngL', ngQ, ngQ', ngx ht]
  subst ht
  by_cases h : nI 0 ≤ b ∧ b ≤ nI 9999
  · obtain ⟨k, -, k1, k2⟩ := wof h (by decide) (by decide)
    subst k2
    refine call_hill (fun A => if j < A 0 0 1 then nI (A 4 j 2) else -nI 1000000001) (fun A => if j < A 0 0 1 then sA A 4 j 2 k else A) (fun A I hC F g _ => ?_) (fun A I hR g _ _ => ?_) (fun A g h => ?_)
    · have hb : A 0 0 1 ≤ 12 := g.2.1 0 (by decide)
      have hm : I 7 0 3 = nI (A 0 0 1) := c0_mn hC (t := 0) (by decide)
      have hh := s_Rows_has (d + 198) 0 j (A 0 0 1) I hm (by omega) hj
      by_cases e : j < A 0 0 1
      · simp only [if_pos e] at hh ⊢
        have hp := s_Rows_put (d + 196) 0 j 2 (A 0 0 1) (nI k) I (by decide) F hm hb e (by decide)
        have hv : I 37 0 (j * 3 + 2) = nI (A 4 j 2) := hC.2.2.2.2.2 0 j 2 (by decide) e (by decide)
        have hr := RepC_row0 (t := 0) (r := j) (c := 2) (v := k) hC (by decide) e (by decide)
        rw [show tW (0 % 7) = 3 from rfl] at hp
        refine ⟨_, ?_, hr, Fix_up F (by omega), fr_up (fr_rf _ _) (by unfold dC hc; omega)⟩
        simp (disch := omega) only [n_H_boots, e_H_boots_0, e_H_boots_1, e_H_boots_2, e_H_boots_3, e_H_boots_4, e_H_boots_5, e_H_boots_6, s_H_within, lit, nad, nml, bd_s, ct_s, ct_n, a11, a01, aB2, bitA, nlt, nle, neq, dlT, dlF, deT, deF, dqT, dqF, nN, inb, nsb, ndv, nrm, if_true, if_false, ite_true, ite_false, true_and, and_true, and_self, and_false, false_and, or_true, true_or, or_false, false_or, or_self, reduceIte, eq_self, Nat.reduceAdd, Nat.reduceMul, Nat.reduceSub, Nat.reduceDiv, Nat.reduceMod, Nat.zero_add, Nat.mul_zero, not_true_eq_false, not_false_eq_true, up_T, up_F, wr_T, wr_F, ngE, ngE', ngL, ngL', ngQ, ngQ', hh, hp, hv]
        rfl
      · simp only [if_neg e] at hh ⊢
        refine ⟨I, ?_, hC, F, fr_rf _ _⟩
        simp (disch := omega) only [n_H_boots, e_H_boots_0, e_H_boots_1, e_H_boots_2, e_H_boots_3, e_H_boots_4, e_H_boots_5, e_H_boots_6, s_H_within, lit, nad, nml, bd_s, ct_s, ct_n, a11, a01, aB2, bitA, nlt, nle, neq, dlT, dlF, deT, deF, dqT, dqF, nN, inb, nsb, ndv, nrm, if_true, if_false, ite_true, ite_false, true_and, and_true, and_self, and_false, false_and, or_true, true_or, or_false, false_or, or_self, reduceIte, eq_self, Nat.reduceAdd, Nat.reduceMul, Nat.reduceSub, Nat.reduceDiv, Nat.reduceMod, Nat.zero_add, Nat.mul_zero, not_true_eq_false, not_false_eq_true, up_T, up_F, wr_T, wr_F, ngE, ngE', ngL, ngL', ngQ, ngQ', hh]
    · have hb : A 0 0 1 ≤ 12 := g.2.1 0 (by decide)
      have hm : I 47 0 1 = nI (A 0 0 1) := hR.1 1 (by decide)
      have hw := wl (n := A 0 0 1) hj (by omega)
      by_cases e : j < A 0 0 1
      · simp only [if_pos e]
        have hv : I 47 0 (156 + 3 * j + 2) = nI (A 4 j 2) := hR.2.2.2.2 0 j 2 (by decide) e (by decide)
        refine ⟨_, ?_, RepR_row (t := 0) (r := j) (c := 2) (v := k) hR g (by decide) e (by decide), fr_up (fr_rf _ _) (by unfold dM'; omega), k12_up (by decide)⟩
        simp (disch := omega) only [n_M_boots, e_M_boots_0, e_M_boots_1, e_M_boots_2, e_M_boots_3, e_M_boots_4, e_M_boots_5, s_M_in, lit, hm, hw, lit, nad, nml, bd_s, ct_s, ct_n, a11, a01, aB2, bitA, nlt, nle, neq, dlT, dlF, deT, deF, dqT, dqF, nN, inb, nsb, ndv, nrm, if_true, if_false, ite_true, ite_false, true_and, and_true, and_self, and_false, false_and, or_true, true_or, or_false, false_or, or_self, reduceIte, eq_self, Nat.reduceAdd, Nat.reduceMul, Nat.reduceSub, Nat.reduceDiv, Nat.reduceMod, Nat.zero_add, Nat.mul_zero, not_true_eq_false, not_false_eq_true, up_T, up_F, wr_T, wr_F, ngE, ngE', ngL, ngL', ngQ, ngQ', hv]
        rfl
      · simp only [if_neg e]
        refine ⟨I, ?_, hR, fr_rf _ _, k12_rf _⟩
        simp (disch := omega) only [n_M_boots, e_M_boots_0, e_M_boots_1, e_M_boots_2, e_M_boots_3, e_M_boots_4, e_M_boots_5, s_M_in, lit, hm, hw, lit, nad, nml, bd_s, ct_s, ct_n, a11, a01, aB2, bitA, nlt, nle, neq, dlT, dlF, deT, deF, dqT, dqF, nN, inb, nsb, ndv, nrm, if_true, if_false, ite_true, ite_false, true_and, and_true, and_self, and_false, false_and, or_true, true_or, or_false, false_or, or_self, reduceIte, eq_self, Nat.reduceAdd, Nat.reduceMul, Nat.reduceSub, Nat.reduceDiv, Nat.reduceMod, Nat.zero_add, Nat.mul_zero, not_true_eq_false, not_false_eq_true, up_T, up_F, wr_T, wr_F, ngE, ngE', ngL, ngL', ngQ, ngQ']
    · by_cases e : j < A 0 0 1
      · simp only [if_pos e]
        refine ⟨?_, by rw [sA_o (by decide)]; exact h, by rw [sA_o (by decide)]⟩
        have hb := trG g e
        refine Good_mk ?_ ?_ ?_ ?_ ?_ ?_
        · rw [sA_o (by decide)]; exact g.1
        · rw [sA_o (by decide)]; exact g.2.1
        · rw [sA_o (by decide), sA_o (by decide)]; exact g.2.2.1
        · rw [sA_o (by decide)]; exact g.2.2.2.1
        · unfold cods; rw [sA_o (show 0 ≠ 4 by decide), sA_o (show 3 ≠ 4 by decide)]; exact g.2.2.2.2.1
        · intro t r ht hr
          rw [sA_o (by decide)] at hr ⊢
          by_cases q : t = 0
          · subst q
            by_cases q2 : r = j
            · rw [q2, sA_r]
              refine ⟨fun _ => ?_, fun z => by omega, fun z => by omega, fun z => by omega, fun z => by omega, fun z => by omega, fun z => by omega⟩
              simp [uN]
              omega
            · rw [sA_ro q2]; exact Good_row g ht hr
          · rw [sA_o (by omega)]; exact Good_row g ht hr
      · simp only [if_neg e]
        exact ⟨g, h, trivial⟩
  · refine call_id (fun _ => -nI 1000000001) (fun A I hC _ g _ => ?_) (fun A I hR g _ _ => ?_)
    · have hb : A 0 0 1 ≤ 12 := g.2.1 0 (by decide)
      have hm : I 7 0 3 = nI (A 0 0 1) := c0_mn hC (t := 0) (by decide)
      have hh := s_Rows_has (d + 198) 0 j (A 0 0 1) I hm (by omega) hj
      by_cases e : j < A 0 0 1 <;> simp only [e, if_true, if_false] at hh <;> simp (disch := omega) only [n_H_boots, e_H_boots_0, e_H_boots_1, e_H_boots_2, e_H_boots_3, e_H_boots_4, e_H_boots_5, e_H_boots_6, s_H_within, lit, nad, nml, bd_s, ct_s, ct_n, a11, a01, aB2, bitA, nlt, nle, neq, dlT, dlF, deT, deF, dqT, dqF, nN, inb, nsb, ndv, nrm, if_true, if_false, ite_true, ite_false, true_and, and_true, and_self, and_false, false_and, or_true, true_or, or_false, false_or, or_self, reduceIte, eq_self, Nat.reduceAdd, Nat.reduceMul, Nat.reduceSub, Nat.reduceDiv, Nat.reduceMod, Nat.zero_add, Nat.mul_zero, not_true_eq_false, not_false_eq_true, up_T, up_F, wr_T, wr_F, ngE, ngE', ngL, ngL', ngQ, ngQ', hh, h]
    · have hb : A 0 0 1 ≤ 12 := g.2.1 0 (by decide)
      have hm : I 47 0 1 = nI (A 0 0 1) := hR.1 1 (by decide)
      have hw := wl (n := A 0 0 1) hj (by omega)
      by_cases e : j < A 0 0 1 <;> simp (disch := omega) only [n_M_boots, e_M_boots_0, e_M_boots_1, e_M_boots_2, e_M_boots_3, e_M_boots_4, e_M_boots_5, s_M_in, lit, hm, hw, lit, nad, nml, bd_s, ct_s, ct_n, a11, a01, aB2, bitA, nlt, nle, neq, dlT, dlF, deT, deF, dqT, dqF, nN, inb, nsb, ndv, nrm, if_true, if_false, ite_true, ite_false, true_and, and_true, and_self, and_false, false_and, or_true, true_or, or_false, false_or, or_self, reduceIte, eq_self, Nat.reduceAdd, Nat.reduceMul, Nat.reduceSub, Nat.reduceDiv, Nat.reduceMod, Nat.zero_add, Nat.mul_zero, not_true_eq_false, not_false_eq_true, up_T, up_F, wr_T, wr_F, ngE, ngE', ngL, ngL', ngQ, ngQ', h]
theorem Ok_mendTold (d : Nat) (t b : Int32) : Ok (d + 200) q_H_mendTold q_M_mendTold [.inl t, .inl b] := by
  rcases ix t with ht | ⟨j, hj, ht⟩
  · refine call_id (fun _ => -nI 1000000001) (fun A I _ _ _ _ => ?_) (fun A I hR _ _ _ => ?_)
    · simp (disch := omega) only [n_H_mendTold, e_H_mendTold_0, e_H_mendTold_1, e_H_mendTold_2, e_H_mendTold_3, e_H_mendTold_4, e_H_mendTold_5, e_H_mendTold_6, s_Rows_hasN _ _ _ _ ht, lit, nad, nml, bd_s, ct_s, ct_n, a11, a01, aB2, bitA, nlt, nle, neq, dlT, dlF, deT, deF, dqT, dqF, nN, inb, nsb, ndv, nrm, if_true, if_false, ite_true, ite_false, true_and, and_true, and_self, and_false, false_and, or_true, true_or, or_false, false_or, or_self, reduceIte, eq_self, Nat.reduceAdd, Nat.reduceMul, Nat.reduceSub, Nat.reduceDiv, Nat.reduceMod, Nat.zero_add, Nat.mul_zero, not_true_eq_false, not_false_eq_true, up_T, up_F, wr_T, wr_F, ngE, ngE', ngL, ngL', ngQ, ngQ']
    · simp (disch := omega) only [n_M_mendTold, e_M_mendTold_0, e_M_mendTold_1, e_M_mendTold_2, e_M_mendTold_3, e_M_mendTold_4, e_M_mendTold_5, e_M_mendTold_6, s_M_in, lit, nad, nml, bd_s, ct_s, ct_n, a11, a01, aB2, bitA, nlt, nle, neq, dlT, dlF, deT, deF, dqT, dqF, nN, inb, nsb, ndv, nrm, if_true, if_false, ite_true, ite_false, true_and, and_true, and_self, and_false, false_and, or_true, true_or, or_false, false_or, or_self, reduceIte, eq_self, Nat.reduceAdd, Nat.reduceMul, Nat.reduceSub, Nat.reduceDiv, Nat.reduceMod, Nat.zero_add, Nat.mul_zero, not_true_eq_false, not_false_eq_true, up_T, up_F, wr_T, wr_F, ngE, ngE', ngL, ngL', ngQ, ngQ', ngx ht]
  subst ht
  by_cases h : nI 0 ≤ b ∧ b ≤ nI 3
  · obtain ⟨k, -, k1, k2⟩ := wof h (by decide) (by decide)
    subst k2
    refine call_id (fun A => if j < A 0 0 3 then nI (A 5 j k) else -nI 1000000001) (fun A I hC F g _ => ?_) (fun A I hR g _ _ => ?_)
    · have hb : A 0 0 3 ≤ 20 := g.2.1 1 (by decide)
      have hm : I 7 1 3 = nI (A 0 0 3) := c0_mn hC (t := 1) (by decide)
      have hh := s_Rows_has (d + 198) 1 j (A 0 0 3) I hm (by omega) hj
      by_cases e : j < A 0 0 3
      · simp only [if_pos e] at hh ⊢
        have ha := s_at0 (d + 197) 1 j k A I hC F g (by decide) e (show k < 4 by omega)
        simp (disch := omega) only [n_H_mendTold, e_H_mendTold_0, e_H_mendTold_1, e_H_mendTold_2, e_H_mendTold_3, e_H_mendTold_4, e_H_mendTold_5, e_H_mendTold_6, s_H_within, lit, nad, nml, bd_s, ct_s, ct_n, a11, a01, aB2, bitA, nlt, nle, neq, dlT, dlF, deT, deF, dqT, dqF, nN, inb, nsb, ndv, nrm, if_true, if_false, ite_true, ite_false, true_and, and_true, and_self, and_false, false_and, or_true, true_or, or_false, false_or, or_self, reduceIte, eq_self, Nat.reduceAdd, Nat.reduceMul, Nat.reduceSub, Nat.reduceDiv, Nat.reduceMod, Nat.zero_add, Nat.mul_zero, not_true_eq_false, not_false_eq_true, up_T, up_F, wr_T, wr_F, ngE, ngE', ngL, ngL', ngQ, ngQ', hh, ha]
      · simp only [if_neg e] at hh ⊢
        simp (disch := omega) only [n_H_mendTold, e_H_mendTold_0, e_H_mendTold_1, e_H_mendTold_2, e_H_mendTold_3, e_H_mendTold_4, e_H_mendTold_5, e_H_mendTold_6, s_H_within, lit, nad, nml, bd_s, ct_s, ct_n, a11, a01, aB2, bitA, nlt, nle, neq, dlT, dlF, deT, deF, dqT, dqF, nN, inb, nsb, ndv, nrm, if_true, if_false, ite_true, ite_false, true_and, and_true, and_self, and_false, false_and, or_true, true_or, or_false, false_or, or_self, reduceIte, eq_self, Nat.reduceAdd, Nat.reduceMul, Nat.reduceSub, Nat.reduceDiv, Nat.reduceMod, Nat.zero_add, Nat.mul_zero, not_true_eq_false, not_false_eq_true, up_T, up_F, wr_T, wr_F, ngE, ngE', ngL, ngL', ngQ, ngQ', hh]
    · have hb : A 0 0 3 ≤ 20 := g.2.1 1 (by decide)
      have hm : I 47 0 3 = nI (A 0 0 3) := hR.1 3 (by decide)
      have hw := wl (n := A 0 0 3) hj (by omega)
      by_cases e : j < A 0 0 3
      · simp only [if_pos e]
        have hv : I 47 0 (192 + 4 * j + k) = nI (A 5 j k) := hR.2.2.2.2 1 j k (by decide) e (show k < 4 by omega)
        simp (disch := omega) only [n_M_mendTold, e_M_mendTold_0, e_M_mendTold_1, e_M_mendTold_2, e_M_mendTold_3, e_M_mendTold_4, e_M_mendTold_5, e_M_mendTold_6, s_M_in, lit, hm, hw, lit, nad, nml, bd_s, ct_s, ct_n, a11, a01, aB2, bitA, nlt, nle, neq, dlT, dlF, deT, deF, dqT, dqF, nN, inb, nsb, ndv, nrm, if_true, if_false, ite_true, ite_false, true_and, and_true, and_self, and_false, false_and, or_true, true_or, or_false, false_or, or_self, reduceIte, eq_self, Nat.reduceAdd, Nat.reduceMul, Nat.reduceSub, Nat.reduceDiv, Nat.reduceMod, Nat.zero_add, Nat.mul_zero, not_true_eq_false, not_false_eq_true, up_T, up_F, wr_T, wr_F, ngE, ngE', ngL, ngL', ngQ, ngQ', hv]
      · simp only [if_neg e]
        simp (disch := omega) only [n_M_mendTold, e_M_mendTold_0, e_M_mendTold_1, e_M_mendTold_2, e_M_mendTold_3, e_M_mendTold_4, e_M_mendTold_5, e_M_mendTold_6, s_M_in, lit, hm, hw, lit, nad, nml, bd_s, ct_s, ct_n, a11, a01, aB2, bitA, nlt, nle, neq, dlT, dlF, deT, deF, dqT, dqF, nN, inb, nsb, ndv, nrm, if_true, if_false, ite_true, ite_false, true_and, and_true, and_self, and_false, false_and, or_true, true_or, or_false, false_or, or_self, reduceIte, eq_self, Nat.reduceAdd, Nat.reduceMul, Nat.reduceSub, Nat.reduceDiv, Nat.reduceMod, Nat.zero_add, Nat.mul_zero, not_true_eq_false, not_false_eq_true, up_T, up_F, wr_T, wr_F, ngE, ngE', ngL, ngL', ngQ, ngQ']
  · refine call_id (fun _ => -nI 1000000001) (fun A I hC _ g _ => ?_) (fun A I hR g _ _ => ?_)
    · have hb : A 0 0 3 ≤ 20 := g.2.1 1 (by decide)
      have hm : I 7 1 3 = nI (A 0 0 3) := c0_mn hC (t := 1) (by decide)
      have hh := s_Rows_has (d + 198) 1 j (A 0 0 3) I hm (by omega) hj
      by_cases e : j < A 0 0 3 <;> simp only [e, if_true, if_false] at hh <;> simp (disch := omega) only [n_H_mendTold, e_H_mendTold_0, e_H_mendTold_1, e_H_mendTold_2, e_H_mendTold_3, e_H_mendTold_4, e_H_mendTold_5, e_H_mendTold_6, s_H_within, lit, nad, nml, bd_s, ct_s, ct_n, a11, a01, aB2, bitA, nlt, nle, neq, dlT, dlF, deT, deF, dqT, dqF, nN, inb, nsb, ndv, nrm, if_true, if_false, ite_true, ite_false, true_and, and_true, and_self, and_false, false_and, or_true, true_or, or_false, false_or, or_self, reduceIte, eq_self, Nat.reduceAdd, Nat.reduceMul, Nat.reduceSub, Nat.reduceDiv, Nat.reduceMod, Nat.zero_add, Nat.mul_zero, not_true_eq_false, not_false_eq_true, up_T, up_F, wr_T, wr_F, ngE, ngE', ngL, ngL', ngQ, ngQ', hh, h]
    · have hb : A 0 0 3 ≤ 20 := g.2.1 1 (by decide)
      have hm : I 47 0 3 = nI (A 0 0 3) := hR.1 3 (by decide)
      have hw := wl (n := A 0 0 3) hj (by omega)
      by_cases e : j < A 0 0 3 <;> simp (disch := omega) only [n_M_mendTold, e_M_mendTold_0, e_M_mendTold_1, e_M_mendTold_2, e_M_mendTold_3, e_M_mendTold_4, e_M_mendTold_5, e_M_mendTold_6, s_M_in, lit, hm, hw, lit, nad, nml, bd_s, ct_s, ct_n, a11, a01, aB2, bitA, nlt, nle, neq, dlT, dlF, deT, deF, dqT, dqF, nN, inb, nsb, ndv, nrm, if_true, if_false, ite_true, ite_false, true_and, and_true, and_self, and_false, false_and, or_true, true_or, or_false, false_or, or_self, reduceIte, eq_self, Nat.reduceAdd, Nat.reduceMul, Nat.reduceSub, Nat.reduceDiv, Nat.reduceMod, Nat.zero_add, Nat.mul_zero, not_true_eq_false, not_false_eq_true, up_T, up_F, wr_T, wr_F, ngE, ngE', ngL, ngL', ngQ, ngQ', h]
theorem s_Stretch_isOf (d r a : Nat) (f : Nat → Nat) (I : mm_I) (hS : StC I r f) (g : StG f) (ha : a ≤ 4) : Sn (d + 1) q_Stretch_isOf [.inr (8, r), .inl (nI a)] I = some (some (.inl (nI (b2 (isN (f 8) a)))), (sh0, I)) := by
  have h8 := hS.2.2.2.2.2.2.2.2
  have g8 := g.2.2.2.2.2.2.2.2.2.2.2
  rcases (show a = 0 ∨ a = 1 ∨ a = 2 ∨ a = 3 ∨ a = 4 by omega) with e | e | e | e | e <;> subst e <;> rcases (show f 8 = 0 ∨ f 8 = 1 ∨ f 8 = 2 ∨ f 8 = 3 ∨ f 8 = 4 by omega) with e | e | e | e | e <;> rw [e] at h8 ⊢ <;> simp (disch := omega) only [n_Stretch_isOf, e_Stretch_isOf_0, e_Stretch_isOf_1, e_Stretch_isOf_2, e_Stretch_isOf_3, e_Stretch_isOf_4, e_Stretch_isOf_5, e_Stretch_isOf_6, e_Stretch_isOf_7, e_Stretch_isOf_8, e_Stretch_isOf_9, h8, lit, nad, nml, bd_s, ct_s, ct_n, a11, a01, aB2, bitA, nlt, nle, neq, dlT, dlF, deT, deF, dqT, dqF, nN, inb, nsb, ndv, nrm, if_true, if_false, ite_true, ite_false, true_and, and_true, and_self, and_false, false_and, or_true, true_or, or_false, false_or, or_self, reduceIte, eq_self, Nat.reduceAdd, Nat.reduceMul, Nat.reduceSub, Nat.reduceDiv, Nat.reduceMod, Nat.zero_add, Nat.mul_zero, not_true_eq_false, not_false_eq_true, up_T, up_F, wr_T, wr_F, ngE, ngE', ngL, ngL', ngQ, ngQ'] <;> rfl
theorem s_M_isUnder (d k a : Nat) (I : mm_I) (hk : k ≤ 4) (ha : a ≤ 4) : Sn (d + 1) q_M_isUnder [.inl (nI k), .inl (nI a)] I = some (some (.inl (nI (b2 (isN k a)))), (sh0, I)) := by
  rcases (show a = 0 ∨ a = 1 ∨ a = 2 ∨ a = 3 ∨ a = 4 by omega) with e | e | e | e | e <;> subst e <;> rcases (show k = 0 ∨ k = 1 ∨ k = 2 ∨ k = 3 ∨ k = 4 by omega) with e | e | e | e | e <;> subst e <;> simp (disch := omega) only [n_M_isUnder, e_M_isUnder_0, e_M_isUnder_1, e_M_isUnder_2, e_M_isUnder_3, e_M_isUnder_4, e_M_isUnder_5, e_M_isUnder_6, e_M_isUnder_7, e_M_isUnder_8, lit, nad, nml, bd_s, ct_s, ct_n, a11, a01, aB2, bitA, nlt, nle, neq, dlT, dlF, deT, deF, dqT, dqF, nN, inb, nsb, ndv, nrm, if_true, if_false, ite_true, ite_false, true_and, and_true, and_self, and_false, false_and, or_true, true_or, or_false, false_or, or_self, reduceIte, eq_self, Nat.reduceAdd, Nat.reduceMul, Nat.reduceSub, Nat.reduceDiv, Nat.reduceMod, Nat.zero_add, Nat.mul_zero, not_true_eq_false, not_false_eq_true, up_T, up_F, wr_T, wr_F, ngE, ngE', ngL, ngL', ngQ, ngQ'] <;> rfl
theorem s_M_holdsOf (d p : Nat) (A : mm_A) (I : mm_I) (hR : RepR 0 A I) (g : Good A) (hp : p < A 0 0 0) : Sn (d + 4) q_M_holdsOf [.inr (12, 0), .inl (nI p)] I = some (some (.inl (hdF (A 1 p))), (sh0, I)) := by
  have o := fun c (hc : c < 9) => s_M_of9 (d + 2) p c A I hR g hp hc
  obtain ⟨g0, g1, g2, g3, g4, g5, g6, g7, g8, g9, g10, g11⟩ := stG g hp
  have he := s_M_holdsBy d (A 1 p 8) (A 1 p 2) (A 1 p 3) (A 1 p 4) I (by omega) (by omega) (by omega) (by omega)
  simp (disch := omega) only [n_M_holdsOf, e_M_holdsOf_0, e_M_holdsOf_1, e_M_holdsOf_2, e_M_holdsOf_3, e_M_holdsOf_4, e_M_holdsOf_5, lit, nad, nml, bd_s, ct_s, ct_n, b11, b01, o 8 (by decide), o 2 (by decide), o 3 (by decide), o 4 (by decide), he]
  rfl
theorem Ok_as (d : Nat) (t b : Int32) : Ok (d + 200) q_H_as q_M_as [.inl t, .inl b] := by
  rcases ix t with ht | ⟨j, hj, ht⟩
  · refine call_id (fun _ => -nI 1000000001) (fun A I _ _ _ _ => ?_) (fun A I hR _ _ _ => ?_)
    · simp (disch := omega) only [n_H_as, e_H_as_0, e_H_as_1, e_H_as_2, e_H_as_3, e_H_as_4, e_H_as_5, e_H_as_6, e_H_as_7, e_H_as_8, e_H_as_9, s_H_isStretchN _ _ _ ht, lit, nad, nml, bd_s, ct_s, ct_n, a11, a01, aB2, bitA, nlt, nle, neq, dlT, dlF, deT, deF, dqT, dqF, nN, inb, nsb, ndv, nrm, if_true, if_false, ite_true, ite_false, true_and, and_true, and_self, and_false, false_and, or_true, true_or, or_false, false_or, or_self, reduceIte, eq_self, Nat.reduceAdd, Nat.reduceMul, Nat.reduceSub, Nat.reduceDiv, Nat.reduceMod, Nat.zero_add, Nat.mul_zero, not_true_eq_false, not_false_eq_true, up_T, up_F, wr_T, wr_F, ngE, ngE', ngL, ngL', ngQ, ngQ']
    · simp (disch := omega) only [n_M_as, e_M_as_0, e_M_as_1, e_M_as_2, e_M_as_3, e_M_as_4, e_M_as_5, e_M_as_6, e_M_as_7, e_M_as_8, e_M_as_9, e_M_as_10, e_M_as_11, s_M_isPathN _ _ _ ht, lit, nad, nml, bd_s, ct_s, ct_n, a11, a01, aB2, bitA, nlt, nle, neq, dlT, dlF, deT, deF, dqT, dqF, nN, inb, nsb, ndv, nrm, if_true, if_false, ite_true, ite_false, true_and, and_true, and_self, and_false, false_and, or_true, true_or, or_false, false_or, or_self, reduceIte, eq_self, Nat.reduceAdd, Nat.reduceMul, Nat.reduceSub, Nat.reduceDiv, Nat.reduceMod, Nat.zero_add, Nat.mul_zero, not_true_eq_false, not_false_eq_true, up_T, up_F, wr_T, wr_F, ngE, ngE', ngL, ngL', ngQ, ngQ']
  subst ht
  by_cases h : nI 0 ≤ b ∧ b ≤ nI 4
  · obtain ⟨k, -, k1, k2⟩ := wof h (by decide) (by decide)
    subst k2
    refine call_id (fun A => if j < A 0 0 0 then (if isN (A 1 j 8) k = true then nI (A 1 j 5) else -nI 1000000012) else -nI 1000000001) (fun A I hC F g _ => ?_) (fun A I hR g _ _ => ?_)
    · have hn := g.1.1
      have hh := s_H_isStretch (d + 197) j A I hC g hj
      by_cases e : j < A 0 0 0
      · simp only [if_pos e] at hh ⊢
        have hS := c0_st hC e
        have hi := s_Stretch_isOf (d + 198) j k (A 1 j) I hS (stG g e) k1
        have h5 := hS.2.2.2.2.2.1
        cases q : isN (A 1 j 8) k <;> rw [q] at hi <;> simp (disch := omega) only [n_H_as, e_H_as_0, e_H_as_1, e_H_as_2, e_H_as_3, e_H_as_4, e_H_as_5, e_H_as_6, e_H_as_7, e_H_as_8, e_H_as_9, s_H_within, lit, nad, nml, bd_s, ct_s, ct_n, a11, a01, aB2, bitA, nlt, nle, neq, dlT, dlF, deT, deF, dqT, dqF, nN, inb, nsb, ndv, nrm, if_true, if_false, ite_true, ite_false, true_and, and_true, and_self, and_false, false_and, or_true, true_or, or_false, false_or, or_self, reduceIte, eq_self, Nat.reduceAdd, Nat.reduceMul, Nat.reduceSub, Nat.reduceDiv, Nat.reduceMod, Nat.zero_add, Nat.mul_zero, not_true_eq_false, not_false_eq_true, up_T, up_F, wr_T, wr_F, ngE, ngE', ngL, ngL', ngQ, ngQ', hh, hi, h5, b2, Bool.false_eq_true]
      · simp only [if_neg e] at hh ⊢
        simp (disch := omega) only [n_H_as, e_H_as_0, e_H_as_1, e_H_as_2, e_H_as_3, e_H_as_4, e_H_as_5, e_H_as_6, e_H_as_7, e_H_as_8, e_H_as_9, s_H_within, lit, nad, nml, bd_s, ct_s, ct_n, a11, a01, aB2, bitA, nlt, nle, neq, dlT, dlF, deT, deF, dqT, dqF, nN, inb, nsb, ndv, nrm, if_true, if_false, ite_true, ite_false, true_and, and_true, and_self, and_false, false_and, or_true, true_or, or_false, false_or, or_self, reduceIte, eq_self, Nat.reduceAdd, Nat.reduceMul, Nat.reduceSub, Nat.reduceDiv, Nat.reduceMod, Nat.zero_add, Nat.mul_zero, not_true_eq_false, not_false_eq_true, up_T, up_F, wr_T, wr_F, ngE, ngE', ngL, ngL', ngQ, ngQ', hh]
    · have hn := g.1.1
      have hh := s_M_isPath (d + 197) j A I hR g hj
      by_cases e : j < A 0 0 0
      · simp only [if_pos e] at hh ⊢
        have o8 := s_M_of9 (d + 198) j 8 A I hR g e (by decide)
        have o5 := s_M_of9 (d + 198) j 5 A I hR g e (by decide)
        have hi := s_M_isUnder (d + 198) (A 1 j 8) k I (stG g e).2.2.2.2.2.2.2.2.2.2.2 k1
        cases q : isN (A 1 j 8) k <;> rw [q] at hi <;> simp (disch := omega) only [n_M_as, e_M_as_0, e_M_as_1, e_M_as_2, e_M_as_3, e_M_as_4, e_M_as_5, e_M_as_6, e_M_as_7, e_M_as_8, e_M_as_9, e_M_as_10, e_M_as_11, s_M_in, lit, nad, nml, bd_s, ct_s, ct_n, a11, a01, aB2, bitA, nlt, nle, neq, dlT, dlF, deT, deF, dqT, dqF, nN, inb, nsb, ndv, nrm, if_true, if_false, ite_true, ite_false, true_and, and_true, and_self, and_false, false_and, or_true, true_or, or_false, false_or, or_self, reduceIte, eq_self, Nat.reduceAdd, Nat.reduceMul, Nat.reduceSub, Nat.reduceDiv, Nat.reduceMod, Nat.zero_add, Nat.mul_zero, not_true_eq_false, not_false_eq_true, up_T, up_F, wr_T, wr_F, ngE, ngE', ngL, ngL', ngQ, ngQ', hh, hi, o8, o5, b2, Bool.false_eq_true]
      · simp only [if_neg e] at hh ⊢
        simp (disch := omega) only [n_M_as, e_M_as_0, e_M_as_1, e_M_as_2, e_M_as_3, e_M_as_4, e_M_as_5, e_M_as_6, e_M_as_7, e_M_as_8, e_M_as_9, e_M_as_10, e_M_as_11, s_M_in, lit, nad, nml, bd_s, ct_s, ct_n, a11, a01, aB2, bitA, nlt, nle, neq, dlT, dlF, deT, deF, dqT, dqF, nN, inb, nsb, ndv, nrm, if_true, if_false, ite_true, ite_false, true_and, and_true, and_self, and_false, false_and, or_true, true_or, or_false, false_or, or_self, reduceIte, eq_self, Nat.reduceAdd, Nat.reduceMul, Nat.reduceSub, Nat.reduceDiv, Nat.reduceMod, Nat.zero_add, Nat.mul_zero, not_true_eq_false, not_false_eq_true, up_T, up_F, wr_T, wr_F, ngE, ngE', ngL, ngL', ngQ, ngQ', hh]
  · refine call_id (fun _ => -nI 1000000001) (fun A I hC _ g _ => ?_) (fun A I hR g _ _ => ?_)
    · have hh := s_H_isStretch (d + 197) j A I hC g hj
      by_cases e : j < A 0 0 0 <;> simp only [e, if_true, if_false] at hh <;> simp (disch := omega) only [n_H_as, e_H_as_0, e_H_as_1, e_H_as_2, e_H_as_3, e_H_as_4, e_H_as_5, e_H_as_6, e_H_as_7, e_H_as_8, e_H_as_9, s_H_within, lit, nad, nml, bd_s, ct_s, ct_n, a11, a01, aB2, bitA, nlt, nle, neq, dlT, dlF, deT, deF, dqT, dqF, nN, inb, nsb, ndv, nrm, if_true, if_false, ite_true, ite_false, true_and, and_true, and_self, and_false, false_and, or_true, true_or, or_false, false_or, or_self, reduceIte, eq_self, Nat.reduceAdd, Nat.reduceMul, Nat.reduceSub, Nat.reduceDiv, Nat.reduceMod, Nat.zero_add, Nat.mul_zero, not_true_eq_false, not_false_eq_true, up_T, up_F, wr_T, wr_F, ngE, ngE', ngL, ngL', ngQ, ngQ', hh, h]
    · have hh := s_M_isPath (d + 197) j A I hR g hj
      by_cases e : j < A 0 0 0 <;> simp only [e, if_true, if_false] at hh <;> simp (disch := omega) only [n_M_as, e_M_as_0, e_M_as_1, e_M_as_2, e_M_as_3, e_M_as_4, e_M_as_5, e_M_as_6, e_M_as_7, e_M_as_8, e_M_as_9, e_M_as_10, e_M_as_11, s_M_in, lit, nad, nml, bd_s, ct_s, ct_n, a11, a01, aB2, bitA, nlt, nle, neq, dlT, dlF, deT, deF, dqT, dqF, nN, inb, nsb, ndv, nrm, if_true, if_false, ite_true, ite_false, true_and, and_true, and_self, and_false, false_and, or_true, true_or, or_false, false_or, or_self, reduceIte, eq_self, Nat.reduceAdd, Nat.reduceMul, Nat.reduceSub, Nat.reduceDiv, Nat.reduceMod, Nat.zero_add, Nat.mul_zero, not_true_eq_false, not_false_eq_true, up_T, up_F, wr_T, wr_F, ngE, ngE', ngL, ngL', ngQ, ngQ', hh, h]
