/-! A year, in the class and in the reference. -/
def wk5 (k : Nat) : Prop := k = 10 ∨ k = 40 ∨ k = 41 ∨ k = 42 ∨ k = 43
theorem s_Hills_rainIn (d h y : Nat) (A : mm_A) (I : mm_I) (hC : RepC h A I) (hy : y < 2147483648) : Sn (d + 1) q_Hills_rainIn [.inr (3, h), .inl (nI y)] I = some (some (.inl (nI (rnA A y))), (sh0, I)) := by
  unfold rnA
  by_cases e : y ≤ 200
  · have h4 := hC.2.2.2.1 y (by omega)
    simp (disch := omega) only [n_Hills_rainIn, e_Hills_rainIn_0, e_Hills_rainIn_1, e_Hills_rainIn_2, e_Hills_rainIn_3, e_Hills_rainIn_4, lit, nad, nml, bd_s, ct_s, ct_n, a11, a01, aB2, bitA, nlt, nle, neq, dlT, dlF, deT, deF, dqT, dqF, nN, inb, nsb, ndv, nrm, if_true, if_false, ite_true, ite_false, true_and, and_true, and_self, and_false, false_and, or_true, true_or, or_false, false_or, or_self, reduceIte, eq_self, Nat.reduceAdd, Nat.reduceMul, Nat.reduceSub, Nat.reduceDiv, Nat.reduceMod, not_true_eq_false, not_false_eq_true, up_T, up_F, wr_T, wr_F, ngE, ngE', ngL, ngL', ngQ, ngQ', h4]
  · simp (disch := omega) only [n_Hills_rainIn, e_Hills_rainIn_0, e_Hills_rainIn_1, e_Hills_rainIn_2, e_Hills_rainIn_3, e_Hills_rainIn_4, lit, nad, nml, bd_s, ct_s, ct_n, a11, a01, aB2, bitA, nlt, nle, neq, dlT, dlF, deT, deF, dqT, dqF, nN, inb, nsb, ndv, nrm, if_true, if_false, ite_true, ite_false, true_and, and_true, and_self, and_false, false_and, or_true, true_or, or_false, false_or, or_self, reduceIte, eq_self, Nat.reduceAdd, Nat.reduceMul, Nat.reduceSub, Nat.reduceDiv, Nat.reduceMod, not_true_eq_false, not_false_eq_true, up_T, up_F, wr_T, wr_F, ngE, ngE', ngL, ngL', ngQ, ngQ']
theorem s_M_rainIn (d y : Nat) (A : mm_A) (I : mm_I) (hR : RepR 0 A I) (hy : y < 2147483648) : Sn (d + 1) q_M_rainIn [.inr (12, 0), .inl (nI y)] I = some (some (.inl (nI (rnA A y))), (sh0, I)) := by
  unfold rnA
  by_cases e : y ≤ 200
  · have h4 := hR.2.2.1 y (by omega)
    simp (disch := omega) only [n_M_rainIn, e_M_rainIn_0, e_M_rainIn_1, e_M_rainIn_2, e_M_rainIn_3, lit, nad, nml, bd_s, ct_s, ct_n, a11, a01, aB2, bitA, nlt, nle, neq, dlT, dlF, deT, deF, dqT, dqF, nN, inb, nsb, ndv, nrm, if_true, if_false, ite_true, ite_false, true_and, and_true, and_self, and_false, false_and, or_true, true_or, or_false, false_or, or_self, reduceIte, eq_self, Nat.reduceAdd, Nat.reduceMul, Nat.reduceSub, Nat.reduceDiv, Nat.reduceMod, not_true_eq_false, not_false_eq_true, up_T, up_F, wr_T, wr_F, ngE, ngE', ngL, ngL', ngQ, ngQ', h4]
  · simp (disch := omega) only [n_M_rainIn, e_M_rainIn_0, e_M_rainIn_1, e_M_rainIn_2, e_M_rainIn_3, lit, nad, nml, bd_s, ct_s, ct_n, a11, a01, aB2, bitA, nlt, nle, neq, dlT, dlF, deT, deF, dqT, dqF, nN, inb, nsb, ndv, nrm, if_true, if_false, ite_true, ite_false, true_and, and_true, and_self, and_false, false_and, or_true, true_or, or_false, false_or, or_self, reduceIte, eq_self, Nat.reduceAdd, Nat.reduceMul, Nat.reduceSub, Nat.reduceDiv, Nat.reduceMod, not_true_eq_false, not_false_eq_true, up_T, up_F, wr_T, wr_F, ngE, ngE', ngL, ngL', ngQ, ngQ']
theorem s_Stretch_mendTo (d r k w : Nat) (I : mm_I) (hw : I 8 r 6 = nI w) (hb : w ≤ 9999) : Sn (d + 1) q_Stretch_mendTo [.inr (8, r), .inl (nI k)] I = some (none, (sh0, mm_up (mm_up I 8 r 7 (nI k)) 8 r 6 (nI (mn12 w)))) := by
  unfold mn12
  by_cases e : w ≤ 12
  · simp (disch := omega) only [n_Stretch_mendTo, e_Stretch_mendTo_0, lit, nad, nml, bd_s, ct_s, ct_n, a11, a01, aB2, bitA, nlt, nle, neq, dlT, dlF, deT, deF, dqT, dqF, nN, inb, nsb, ndv, nrm, if_true, if_false, ite_true, ite_false, true_and, and_true, and_self, and_false, false_and, or_true, true_or, or_false, false_or, or_self, reduceIte, eq_self, Nat.reduceAdd, Nat.reduceMul, Nat.reduceSub, Nat.reduceDiv, Nat.reduceMod, not_true_eq_false, not_false_eq_true, up_T, up_F, wr_T, wr_F, ngE, ngE', ngL, ngL', ngQ, ngQ', hw]
  · simp (disch := omega) only [n_Stretch_mendTo, e_Stretch_mendTo_0, lit, nad, nml, bd_s, ct_s, ct_n, a11, a01, aB2, bitA, nlt, nle, neq, dlT, dlF, deT, deF, dqT, dqF, nN, inb, nsb, ndv, nrm, if_true, if_false, ite_true, ite_false, true_and, and_true, and_self, and_false, false_and, or_true, true_or, or_false, false_or, or_self, reduceIte, eq_self, Nat.reduceAdd, Nat.reduceMul, Nat.reduceSub, Nat.reduceDiv, Nat.reduceMod, not_true_eq_false, not_false_eq_true, up_T, up_F, wr_T, wr_F, ngE, ngE', ngL, ngL', ngQ, ngQ', hw]
theorem Fix_up {I : mm_I} {k i j : Nat} {x : Int32} (F : Fix I) (h : k ≠ 7 ∨ (j ≠ 1 ∧ j ≠ 2)) : Fix (mm_up I k i j x) := Fix_o F (fun r j' hj => up_F (by omega))
theorem Fix_wr {I : mm_I} {k i b n : Nat} {v : Nat → Int32} (F : Fix I) (h : k ≠ 7) : Fix (wr I k i b n v) := Fix_o F (fun r j' hj => wr_F (by omega))
theorem s_Hills_doMendsDue (d h : Nat) (A : mm_A) (I : mm_I) (hC : RepC h A I) (F : Fix I) (g : Good A) (hh : h < 3) : ∃ I', Sn (d + 4) q_Hills_doMendsDue [.inr (3, h)] I = some (none, (sh0, I')) ∧ RepC h (ym A (A 0 0 3)) I' ∧ Fix I' ∧ fr (hc h) I I' := by
  have hM : A 0 0 3 ≤ 20 := g.2.1 1 (by decide)
  have hN := g.1.1
  rw [n_Hills_doMendsDue, e_Hills_doMendsDue_0]
  refine lpX (n := A 0 0 3) (σ := mm_I × Option mm_V) (fun i s => Rn (d + 3) q_Hills_doMendsDue 1 [some (.inr (3, h)), some (.inl (nI i)), s.2] [] s.1) (fun i s => RepC h (ym A i) s.1 ∧ Fix s.1 ∧ fr (hc h) I s.1) (fun q => ∃ I', q = some (none, (sh0, I')) ∧ RepC h (ym A (A 0 0 3)) I' ∧ Fix I' ∧ fr (hc h) I I') ?_ ?_ 0 (I, none) (Nat.zero_le _) ⟨hC, F, fr_rf _ _⟩
  · rintro i ⟨J, v⟩ hi ⟨j1, j2, j3⟩
    dsimp only at j1 j2 j3 ⊢
    have gB := ym_g g i (by omega)
    have c0 : ∀ c, ym A i 0 0 c = A 0 0 c := fun c => by rw [ym_o (by decide) (by decide)]
    have hiB : i < ym A i 0 0 3 := by rw [c0]; exact hi
    generalize hB : ym A i = B at *
    have hy : B 0 0 11 ≤ 300 := gB.1.2.2.2.2
    have a0 := s_at (d + 1) h 1 i 0 B J j1 j2 gB hh (by decide) hiB (by decide)
    have a1 := s_at (d + 1) h 1 i 1 B J j1 j2 gB hh (by decide) hiB (by decide)
    have a2 := s_at (d + 1) h 1 i 2 B J j1 j2 gB hh (by decide) hiB (by decide)
    have a3 := s_at (d + 1) h 1 i 3 B J j1 j2 gB hh (by decide) hiB (by decide)
    have hm : J 7 (7 * h + 1) 3 = nI (A 0 0 3) := by rw [← c0 3]; exact j1.2.1 1 (by decide)
    have hyr : J 3 h 4 = nI (B 0 0 11) := j1.1.2.2.2.2
    have hst : J 3 h 1 = nI (B 0 0 0) := j1.1.1
    obtain ⟨m0, m1, m2, m3, m4⟩ := mdG gB hiB
    have hbn : B 0 0 0 ≤ 16 := gB.1.1
    have hnx : ym A (i + 1) = ymS B i := by rw [ym, hB]
    right
    by_cases e3 : B 5 i 3 = 0
    · by_cases e2 : B 5 i 2 = B 0 0 11
      · have hS := j1.2.2.1 _ m0
        have hw : J 8 (16 * h + B 5 i 0) 6 = nI (B 1 (B 5 i 0) 5) := hS.2.2.2.2.2.1
        have hwb : B 1 (B 5 i 0) 5 ≤ 9999 := (stG gB m0).2.2.2.2.2.2.2.2.1
        have mt := s_Stretch_mendTo (d + 2) (16 * h + B 5 i 0) (B 5 i 1) _ J hw hwb
        have r1 := RepC_st (c := 8) (v := B 5 i 1) j1 m0 (by decide)
        have r2 := RepC_st (p := B 5 i 0) (c := 5) (v := mn12 (B 1 (B 5 i 0) 5)) r1 (by rw [sA_o (by decide)]; exact m0) (by decide)
        have F2 : Fix (mm_up (mm_up J 8 (16 * h + B 5 i 0) 7 (nI (B 5 i 1))) 8 (16 * h + B 5 i 0) 6 (nI (mn12 (B 1 (B 5 i 0) 5)))) := Fix_up (Fix_up j2 (by omega)) (by omega)
        have hq : (sA (sA B 1 (B 5 i 0) 8 (B 5 i 1)) 1 (B 5 i 0) 5 (mn12 (B 1 (B 5 i 0) 5))) 0 0 (tH 1) = B 0 0 3 := by rw [sA_o (by decide), sA_o (by decide)]; rfl
        have r3 := RepC_row (t := 1) (r := i) (c := 3) (v := 1) r2 (by decide) (by rw [hq]; exact hiB) (by decide)
        have hm3 : (mm_up (mm_up J 8 (16 * h + B 5 i 0) 7 (nI (B 5 i 1))) 8 (16 * h + B 5 i 0) 6 (nI (mn12 (B 1 (B 5 i 0) 5)))) 7 (7 * h + 1) 3 = nI (A 0 0 3) := by rw [up_F (by omega), up_F (by omega)]; exact hm
        have tm : tM ((7 * h + 1) % 7) = 20 := by rw [show (7 * h + 1) % 7 = 1 by omega]; rfl
        have tw : tW ((7 * h + 1) % 7) = 4 := by rw [show (7 * h + 1) % 7 = 1 by omega]; rfl
        have pt := s_Rows_put d (7 * h + 1) i 3 (A 0 0 3) (nI 1) _ (by omega) F2 hm3 (by rw [tm]; exact hM) hi (by rw [tw]; decide)
        rw [tw] at pt
        refine ⟨(mm_up (mm_up (mm_up J 8 (16 * h + B 5 i 0) 7 (nI (B 5 i 1))) 8 (16 * h + B 5 i 0) 6 (nI (mn12 (B 1 (B 5 i 0) 5)))) 37 (7 * h + 1) (i * 4 + 3) (nI 1), some (.inl (nI (B 5 i 0)))), ⟨?_, Fix_up F2 (by omega), ?_⟩, ?_⟩
        · dsimp only
          rw [hnx, ymS, if_pos ⟨e3, e2⟩]
          exact r3
        · dsimp only
          exact fr_up (fr_up (fr_up j3 (by unfold hc; omega)) (by unfold hc; omega)) (by unfold hc; omega)
        · dsimp only
          simp (disch := omega) only [e_Hills_doMendsDue_2, e_Hills_doMendsDue_3, e_Hills_doMendsDue_4, e_Hills_doMendsDue_5, e_Hills_doMendsDue_7, e_Hills_doMendsDue_8, e_Hills_doMendsDue_9, e_Hills_doMendsDue_10, e_Hills_doMendsDue_11, e_Hills_doMendsDue_12, e_Hills_doMendsDue_13, e_Hills_doMendsDue_14, e_Hills_doMendsDue_1 (x1 := nI i), hm, lit, a0, a1, a2, a3, hyr, hst, mt, pt, lit, nad, nml, bd_s, ct_s, ct_n, a11, a01, aB2, bitA, nlt, nle, neq, dlT, dlF, deT, deF, dqT, dqF, nN, inb, nsb, ndv, nrm, if_true, if_false, ite_true, ite_false, true_and, and_true, and_self, and_false, false_and, or_true, true_or, or_false, false_or, or_self, reduceIte, eq_self, Nat.reduceAdd, Nat.reduceMul, Nat.reduceSub, Nat.reduceDiv, Nat.reduceMod, not_true_eq_false, not_false_eq_true, up_T, up_F, wr_T, wr_F, ngE, ngE', ngL, ngL', ngQ, ngQ']
      · refine ⟨(J, v), ⟨?_, j2, j3⟩, ?_⟩
        · dsimp only
          rw [hnx, ymS, if_neg (by omega)]
          exact j1
        · dsimp only
          simp (disch := omega) only [e_Hills_doMendsDue_2, e_Hills_doMendsDue_3, e_Hills_doMendsDue_4, e_Hills_doMendsDue_5, e_Hills_doMendsDue_6, e_Hills_doMendsDue_14, e_Hills_doMendsDue_1 (x1 := nI i), hm, lit, a0, a1, a2, a3, hyr, hst, lit, nad, nml, bd_s, ct_s, ct_n, a11, a01, aB2, bitA, nlt, nle, neq, dlT, dlF, deT, deF, dqT, dqF, nN, inb, nsb, ndv, nrm, if_true, if_false, ite_true, ite_false, true_and, and_true, and_self, and_false, false_and, or_true, true_or, or_false, false_or, or_self, reduceIte, eq_self, Nat.reduceAdd, Nat.reduceMul, Nat.reduceSub, Nat.reduceDiv, Nat.reduceMod, not_true_eq_false, not_false_eq_true, up_T, up_F, wr_T, wr_F, ngE, ngE', ngL, ngL', ngQ, ngQ']
    · refine ⟨(J, v), ⟨?_, j2, j3⟩, ?_⟩
      · dsimp only
        rw [hnx, ymS, if_neg (by omega)]
        exact j1
      · dsimp only
        simp (disch := omega) only [e_Hills_doMendsDue_2, e_Hills_doMendsDue_3, e_Hills_doMendsDue_14, e_Hills_doMendsDue_1 (x1 := nI i), hm, lit, a3, lit, nad, nml, bd_s, ct_s, ct_n, a11, a01, aB2, bitA, nlt, nle, neq, dlT, dlF, deT, deF, dqT, dqF, nN, inb, nsb, ndv, nrm, if_true, if_false, ite_true, ite_false, true_and, and_true, and_self, and_false, false_and, or_true, true_or, or_false, false_or, or_self, reduceIte, eq_self, Nat.reduceAdd, Nat.reduceMul, Nat.reduceSub, Nat.reduceDiv, Nat.reduceMod, not_true_eq_false, not_false_eq_true, up_T, up_F, wr_T, wr_F, ngE, ngE', ngL, ngL', ngQ, ngQ']
  · rintro ⟨J, v⟩ ⟨j1, j2, j3⟩
    dsimp only at j1 j2 j3 ⊢
    have hm : J 7 (7 * h + 1) 3 = nI (A 0 0 3) := by
      have := j1.2.1 1 (by decide)
      rw [ym_o (by decide) (by decide)] at this
      exact this
    exact ⟨J, by simp (disch := omega) only [e_Hills_doMendsDue_1, e_Hills_doMendsDue_15, hm, lit, nad, nml, bd_s, ct_s, ct_n, a11, a01, aB2, bitA, nlt, nle, neq, dlT, dlF, deT, deF, dqT, dqF, nN, inb, nsb, ndv, nrm, if_true, if_false, ite_true, ite_false, true_and, and_true, and_self, and_false, false_and, or_true, true_or, or_false, false_or, or_self, reduceIte, eq_self, Nat.reduceAdd, Nat.reduceMul, Nat.reduceSub, Nat.reduceDiv, Nat.reduceMod, not_true_eq_false, not_false_eq_true, up_T, up_F, wr_T, wr_F, ngE, ngE', ngL, ngL', ngQ, ngQ'], j1, j2, j3⟩
theorem s_Hills_takeGiftsDue (d h : Nat) (A : mm_A) (I : mm_I) (hC : RepC h A I) (F : Fix I) (g : Good A) (hh : h < 3) : ∃ I', Sn (d + 3) q_Hills_takeGiftsDue [.inr (3, h)] I = some (none, (sh0, I')) ∧ RepC h (yp A (A 0 0 5)) I' ∧ Fix I' ∧ fr (hc h) I I' := by
  have hM : A 0 0 5 ≤ 12 := g.2.1 3 (by decide)
  rw [n_Hills_takeGiftsDue, e_Hills_takeGiftsDue_0]
  refine lpX (n := A 0 0 5) (σ := mm_I) (fun i s => Rn (d + 2) q_Hills_takeGiftsDue 1 [some (.inr (3, h)), some (.inl (nI i))] [] s) (fun i s => RepC h (yp A i) s ∧ Fix s ∧ fr (hc h) I s) (fun q => ∃ I', q = some (none, (sh0, I')) ∧ RepC h (yp A (A 0 0 5)) I' ∧ Fix I' ∧ fr (hc h) I I') ?_ ?_ 0 I (Nat.zero_le _) ⟨hC, F, fr_rf _ _⟩
  · rintro i J hi ⟨j1, j2, j3⟩
    have gB := yp_g g i
    have c0 : yp A i 0 0 5 = A 0 0 5 := yp_c (by decide) i
    have hiB : i < yp A i 0 0 5 := by rw [c0]; exact hi
    generalize hB : yp A i = B at *
    have hy : B 0 0 11 ≤ 300 := gB.1.2.2.2.2
    have hpu : B 0 0 10 ≤ 999999999 := gB.1.2.2.2.1
    have a0 := s_at d h 3 i 0 B J j1 j2 gB hh (by decide) hiB (by decide)
    have a1 := s_at d h 3 i 1 B J j1 j2 gB hh (by decide) hiB (by decide)
    have hm : J 7 (7 * h + 3) 3 = nI (A 0 0 5) := by rw [← c0]; exact j1.2.1 3 (by decide)
    have hyr : J 3 h 4 = nI (B 0 0 11) := j1.1.2.2.2.2
    have hp : J 3 h 7 = nI (B 0 0 10) := j1.1.2.2.2.1
    obtain ⟨m0, m1, m2⟩ := dnG gB hiB
    have hnx : yp A (i + 1) = ypS B i := by rw [yp, hB]
    right
    by_cases e : B 7 i 0 = B 0 0 11
    · refine ⟨mm_up J 3 h 7 (nI (if 999999999 ≤ B 0 0 10 + B 7 i 1 then 999999999 else B 0 0 10 + B 7 i 1)), ⟨?_, Fix_up j2 (by omega), fr_up j3 (by unfold hc; omega)⟩, ?_⟩
      · rw [hnx, ypS, if_pos e]
        exact RepC_purse j1
      · by_cases e2 : 999999999 ≤ B 0 0 10 + B 7 i 1
        · simp (disch := omega) only [e_Hills_takeGiftsDue_2, e_Hills_takeGiftsDue_3, e_Hills_takeGiftsDue_4, e_Hills_takeGiftsDue_5, e_Hills_takeGiftsDue_6, e_Hills_takeGiftsDue_1 (x1 := nI i), hm, lit, a0, a1, hyr, hp, lit, nad, nml, bd_s, ct_s, ct_n, a11, a01, aB2, bitA, nlt, nle, neq, dlT, dlF, deT, deF, dqT, dqF, nN, inb, nsb, ndv, nrm, if_true, if_false, ite_true, ite_false, true_and, and_true, and_self, and_false, false_and, or_true, true_or, or_false, false_or, or_self, reduceIte, eq_self, Nat.reduceAdd, Nat.reduceMul, Nat.reduceSub, Nat.reduceDiv, Nat.reduceMod, not_true_eq_false, not_false_eq_true, up_T, up_F, wr_T, wr_F, ngE, ngE', ngL, ngL', ngQ, ngQ']
        · simp (disch := omega) only [e_Hills_takeGiftsDue_2, e_Hills_takeGiftsDue_3, e_Hills_takeGiftsDue_4, e_Hills_takeGiftsDue_5, e_Hills_takeGiftsDue_6, e_Hills_takeGiftsDue_1 (x1 := nI i), hm, lit, a0, a1, hyr, hp, lit, nad, nml, bd_s, ct_s, ct_n, a11, a01, aB2, bitA, nlt, nle, neq, dlT, dlF, deT, deF, dqT, dqF, nN, inb, nsb, ndv, nrm, if_true, if_false, ite_true, ite_false, true_and, and_true, and_self, and_false, false_and, or_true, true_or, or_false, false_or, or_self, reduceIte, eq_self, Nat.reduceAdd, Nat.reduceMul, Nat.reduceSub, Nat.reduceDiv, Nat.reduceMod, not_true_eq_false, not_false_eq_true, up_T, up_F, wr_T, wr_F, ngE, ngE', ngL, ngL', ngQ, ngQ']
    · refine ⟨J, ⟨?_, j2, j3⟩, ?_⟩
      · rw [hnx, ypS, if_neg e]
        exact j1
      · simp (disch := omega) only [e_Hills_takeGiftsDue_2, e_Hills_takeGiftsDue_3, e_Hills_takeGiftsDue_6, e_Hills_takeGiftsDue_1 (x1 := nI i), hm, lit, a0, a1, hyr, hp, lit, nad, nml, bd_s, ct_s, ct_n, a11, a01, aB2, bitA, nlt, nle, neq, dlT, dlF, deT, deF, dqT, dqF, nN, inb, nsb, ndv, nrm, if_true, if_false, ite_true, ite_false, true_and, and_true, and_self, and_false, false_and, or_true, true_or, or_false, false_or, or_self, reduceIte, eq_self, Nat.reduceAdd, Nat.reduceMul, Nat.reduceSub, Nat.reduceDiv, Nat.reduceMod, not_true_eq_false, not_false_eq_true, up_T, up_F, wr_T, wr_F, ngE, ngE', ngL, ngL', ngQ, ngQ']
  · rintro J ⟨j1, j2, j3⟩
    have hm : J 7 (7 * h + 3) 3 = nI (A 0 0 5) := by
      have := j1.2.1 3 (by decide)
      rw [show tH 3 = 5 from rfl, yp_c (by decide)] at this
      exact this
    exact ⟨J, by simp (disch := omega) only [e_Hills_takeGiftsDue_1, e_Hills_takeGiftsDue_7, hm, lit, nad, nml, bd_s, ct_s, ct_n, a11, a01, aB2, bitA, nlt, nle, neq, dlT, dlF, deT, deF, dqT, dqF, nN, inb, nsb, ndv, nrm, if_true, if_false, ite_true, ite_false, true_and, and_true, and_self, and_false, false_and, or_true, true_or, or_false, false_or, or_self, reduceIte, eq_self, Nat.reduceAdd, Nat.reduceMul, Nat.reduceSub, Nat.reduceDiv, Nat.reduceMod, not_true_eq_false, not_false_eq_true, up_T, up_F, wr_T, wr_F, ngE, ngE', ngL, ngL', ngQ, ngQ'], j1, j2, j3⟩
def fP (h k i : Nat) : Prop := hc h k i ∨ wk5 k
theorem s_Hills_passYear (d h : Nat) (A : mm_A) (I : mm_I) (hC : RepC h A I) (F : Fix I) (g : Good A) (hh : h < 3) : ∃ I', Sn (d + 5) q_Hills_passYear [.inr (3, h), .inr (10, 0)] I = some (none, (sh0, I')) ∧ RepC h (yrA A) I' ∧ Fix I' ∧ fr (fP h) I I' := by
  have hN := g.1.1
  have hy : A 0 0 11 ≤ 300 := g.1.2.2.2.2
  obtain ⟨I1, t1, t2, t3⟩ := s_Walk_tread d h 99 (-nI 1000000005) A I hC F hh g hzN
  have hC1 : RepC h A I1 := RepC_o hC g t2 (by decide)
  have F1 : Fix I1 := Fix_o F (fun r j _ => by rw [t2 7 (by decide)])
  have f1 : fr (fP h) I I1 := fr_eqo t2 (by intro k hk i; unfold fP wk5; simp at hk; omega)
  have ri := s_Hills_rainIn (d + 3) h (A 0 0 11) A I1 hC1 (by omega)
  have hyr : I1 3 h 4 = nI (A 0 0 11) := hC1.1.2.2.2.2
  have k0 : Sn (d + 5) q_Hills_passYear [.inr (3, h), .inr (10, 0)] I = Rn (d + 4) q_Hills_passYear 3 [some (.inr (3, h)), some (.inr (10, 0)), some (.inl (nI (rnA A (A 0 0 11)))), some (.inl (nI 0))] [] I1 := by
    simp (disch := omega) only [n_Hills_passYear, e_Hills_passYear_0, e_Hills_passYear_1, e_Hills_passYear_2, lit, t1, hyr, ri, lit, nad, nml, bd_s, ct_s, ct_n, a11, a01, aB2, bitA, nlt, nle, neq, dlT, dlF, deT, deF, dqT, dqF, nN, inb, nsb, ndv, nrm, if_true, if_false, ite_true, ite_false, true_and, and_true, and_self, and_false, false_and, or_true, true_or, or_false, false_or, or_self, reduceIte, eq_self, Nat.reduceAdd, Nat.reduceMul, Nat.reduceSub, Nat.reduceDiv, Nat.reduceMod, not_true_eq_false, not_false_eq_true, up_T, up_F, wr_T, wr_F, ngE, ngE', ngL, ngL', ngQ, ngQ']
  rw [k0]
  have hrb := rnA_b g (A 0 0 11)
  have l1 := lpX (n := A 0 0 0) (σ := mm_I) (fun i s => Rn (d + 4) q_Hills_passYear 3 [some (.inr (3, h)), some (.inr (10, 0)), some (.inl (nI (rnA A (A 0 0 11)))), some (.inl (nI i))] [] s) (fun i s => RepC h (yg A i) s ∧ Fix s ∧ fr (fP h) I s ∧ ∀ p, p < 16 → s 43 0 p = nI (bo A 99 p)) (fun q => ∃ J, (RepC h (yg A (A 0 0 0)) J ∧ Fix J ∧ fr (fP h) I J) ∧ q = Rn (d + 4) q_Hills_passYear 6 [some (.inr (3, h)), some (.inr (10, 0)), some (.inl (nI (rnA A (A 0 0 11)))), some (.inl (nI (A 0 0 0)))] [] J) (by
    rintro i J hi ⟨j1, j2, j3, j4⟩
    have hS := j1.2.2.1 i (by rw [yg_o (by decide)]; exact hi)
    rw [yg_row i (Nat.le_refl _)] at hS
    have hst : J 3 h 1 = nI (A 0 0 0) := by
      have := j1.1.1
      rw [yg_o (by decide)] at this
      exact this
    have hbb := bo_b (x := 99) g i
    have gr := s_Stretch_grow (d + 1) (16 * h + i) (bo A 99 i) (rnA A (A 0 0 11)) (A 1 i) J hS (stG g hi) hbb hrb
    have h43 := j4 i (by omega)
    refine Or.inr ⟨mm_up J 8 (16 * h + i) 6 (nI (gwV A i)), ⟨?_, Fix_up j2 (by omega), fr_up j3 (by unfold fP hc; omega), fun p hp => by rw [up_F (by omega)]; exact j4 p hp⟩, ?_⟩
    · rw [yg]
      exact RepC_st (c := 5) j1 (by rw [yg_o (by decide)]; exact hi) (by decide)
    · simp (disch := omega) only [e_Hills_passYear_4, e_Hills_passYear_5, e_Hills_passYear_3 (x3 := nI i), hst, h43, gr, lit, nad, nml, bd_s, ct_s, ct_n, a11, a01, aB2, bitA, nlt, nle, neq, dlT, dlF, deT, deF, dqT, dqF, nN, inb, nsb, ndv, nrm, if_true, if_false, ite_true, ite_false, true_and, and_true, and_self, and_false, false_and, or_true, true_or, or_false, false_or, or_self, reduceIte, eq_self, Nat.reduceAdd, Nat.reduceMul, Nat.reduceSub, Nat.reduceDiv, Nat.reduceMod, not_true_eq_false, not_false_eq_true, up_T, up_F, wr_T, wr_F, ngE, ngE', ngL, ngL', ngQ, ngQ', gwV]) (by
    rintro J ⟨j1, j2, j3, j4⟩
    have hst : J 3 h 1 = nI (A 0 0 0) := by
      have := j1.1.1
      rw [yg_o (by decide)] at this
      exact this
    exact ⟨J, ⟨j1, j2, j3⟩, by simp (disch := omega) only [e_Hills_passYear_3, hst, lit, nad, nml, bd_s, ct_s, ct_n, a11, a01, aB2, bitA, nlt, nle, neq, dlT, dlF, deT, deF, dqT, dqF, nN, inb, nsb, ndv, nrm, if_true, if_false, ite_true, ite_false, true_and, and_true, and_self, and_false, false_and, or_true, true_or, or_false, false_or, or_self, reduceIte, eq_self, Nat.reduceAdd, Nat.reduceMul, Nat.reduceSub, Nat.reduceDiv, Nat.reduceMod, not_true_eq_false, not_false_eq_true, up_T, up_F, wr_T, wr_F, ngE, ngE', ngL, ngL', ngQ, ngQ']⟩) 0 I1 (Nat.zero_le _) ⟨hC1, F1, f1, t3⟩
  obtain ⟨J, ⟨j1, j2, j3⟩, k1⟩ := l1
  rw [k1]
  have gy := yg_g g _ (Nat.le_refl (A 0 0 0))
  obtain ⟨J2, m1, m2, m3, m4⟩ := s_Hills_doMendsDue d h _ J j1 j2 gy hh
  rw [show yg A (A 0 0 0) 0 0 3 = A 0 0 3 by rw [yg_o (by decide)]] at m2
  have gm := ym_g gy (A 0 0 3) (by rw [yg_o (by decide)]; exact Nat.le_refl _)
  obtain ⟨J3, p1, p2, p3, p4⟩ := s_Hills_takeGiftsDue (d + 1) h _ J2 m2 m3 gm hh
  rw [show ym (yg A (A 0 0 0)) (A 0 0 3) 0 0 5 = A 0 0 5 by rw [ym_o (by decide) (by decide), yg_o (by decide)]] at p2
  have hyr3 : J3 3 h 4 = nI (A 0 0 11) := by
    have := p2.1.2.2.2.2
    rw [yp_c (by decide), ym_o (by decide) (by decide), yg_o (by decide)] at this
    exact this
  have fh : ∀ k i, hc h k i → fP h k i := fun k i q => Or.inl q
  refine ⟨mm_up J3 3 h 4 (nI (A 0 0 11 + 1)), ?_, RepC_year p2, Fix_up p3 (by omega), fr_up (fr_tr (fr_tr j3 (fr_mono m4 fh)) (fr_mono p4 fh)) (by unfold fP hc; omega)⟩
  simp (disch := omega) only [e_Hills_passYear_6, e_Hills_passYear_7, e_Hills_passYear_8, m1, p1, hyr3, lit, nad, nml, bd_s, ct_s, ct_n, a11, a01, aB2, bitA, nlt, nle, neq, dlT, dlF, deT, deF, dqT, dqF, nN, inb, nsb, ndv, nrm, if_true, if_false, ite_true, ite_false, true_and, and_true, and_self, and_false, false_and, or_true, true_or, or_false, false_or, or_self, reduceIte, eq_self, Nat.reduceAdd, Nat.reduceMul, Nat.reduceSub, Nat.reduceDiv, Nat.reduceMod, not_true_eq_false, not_false_eq_true, up_T, up_F, wr_T, wr_F, ngE, ngE', ngL, ngL', ngQ, ngQ']
theorem s_M_mended (d p k : Nat) (A : mm_A) (I : mm_I) (hR : RepR 0 A I) (g : Good A) (hp : p < A 0 0 0) : Sn (d + 2) q_M_mended [.inr (12, 0), .inl (nI p), .inl (nI k)] I = some (none, (sh0, mm_up (mm_up I 47 0 (12 + 9 * p + 8) (nI k)) 47 0 (12 + 9 * p + 5) (nI (mn12 (A 1 p 5))))) := by
  have hN := g.1.1
  have hw := hR.2.1 p 5 hp (by decide)
  have hb : A 1 p 5 ≤ 9999 := (stG g hp).2.2.2.2.2.2.2.2.1
  unfold mn12
  by_cases e : 12 < A 1 p 5
  · simp (disch := omega) only [n_M_mended, e_M_mended_0, e_M_mended_1, lit, nad, nml, bd_s, ct_s, ct_n, a11, a01, aB2, bitA, nlt, nle, neq, dlT, dlF, deT, deF, dqT, dqF, nN, inb, nsb, ndv, nrm, if_true, if_false, ite_true, ite_false, true_and, and_true, and_self, and_false, false_and, or_true, true_or, or_false, false_or, or_self, reduceIte, eq_self, Nat.reduceAdd, Nat.reduceMul, Nat.reduceSub, Nat.reduceDiv, Nat.reduceMod, not_true_eq_false, not_false_eq_true, up_T, up_F, wr_T, wr_F, ngE, ngE', ngL, ngL', ngQ, ngQ', hw, s_M_lesser]
  · simp (disch := omega) only [n_M_mended, e_M_mended_0, e_M_mended_1, lit, nad, nml, bd_s, ct_s, ct_n, a11, a01, aB2, bitA, nlt, nle, neq, dlT, dlF, deT, deF, dqT, dqF, nN, inb, nsb, ndv, nrm, if_true, if_false, ite_true, ite_false, true_and, and_true, and_self, and_false, false_and, or_true, true_or, or_false, false_or, or_self, reduceIte, eq_self, Nat.reduceAdd, Nat.reduceMul, Nat.reduceSub, Nat.reduceDiv, Nat.reduceMod, not_true_eq_false, not_false_eq_true, up_T, up_F, wr_T, wr_F, ngE, ngE', ngL, ngL', ngQ, ngQ', hw, s_M_lesser]
def gP (k i : Nat) : Prop := (k = 47 ∧ i = 0) ∨ k = 12 ∨ k = 48 ∨ k = 49 ∨ k = 50 ∨ k = 51
theorem s_M_aYear (d : Nat) (A : mm_A) (I : mm_I) (hR : RepR 0 A I) (g : Good A) (h8 : I 12 0 8 = -nI 1) : ∃ I', Sn (d + 6) q_M_aYear [.inr (12, 0)] I = some (none, (sh0, I')) ∧ RepR 0 (yrA A) I' ∧ ex12 7 I I' ∧ fr gP I I' := by
  have hN := g.1.1
  have hy : A 0 0 11 ≤ 300 := g.1.2.2.2.2
  have hM : A 0 0 3 ≤ 20 := g.2.1 1 (by decide)
  have hD : A 0 0 5 ≤ 12 := g.2.1 3 (by decide)
  obtain ⟨I1, t1, t2, t2', t3⟩ := s_M_findBoots d 99 A I hR g (hzM h8)
  have hR1 : RepR 0 A I1 := RepR_o hR (by rw [t2 47 (by decide)])
  have f1 : fr gP I I1 := fr_eqo t2 (by intro k hk i; unfold gP; simp at hk; omega)
  have ri := s_M_rainIn (d + 4) (A 0 0 11) A I1 hR1 (by omega)
  have hyr : I1 47 0 11 = nI (A 0 0 11) := hR1.1 11 (by decide)
  have k0 : Sn (d + 6) q_M_aYear [.inr (12, 0)] I = Rn (d + 5) q_M_aYear 3 [some (.inr (12, 0)), some (.inl (nI (rnA A (A 0 0 11)))), some (.inl (nI 0)), none] [] I1 := by
    simp (disch := omega) only [n_M_aYear, e_M_aYear_0, e_M_aYear_1, e_M_aYear_2, t1, hyr, ri, lit, nad, nml, bd_s, ct_s, ct_n, a11, a01, aB2, bitA, nlt, nle, neq, dlT, dlF, deT, deF, dqT, dqF, nN, inb, nsb, ndv, nrm, if_true, if_false, ite_true, ite_false, true_and, and_true, and_self, and_false, false_and, or_true, true_or, or_false, false_or, or_self, reduceIte, eq_self, Nat.reduceAdd, Nat.reduceMul, Nat.reduceSub, Nat.reduceDiv, Nat.reduceMod, not_true_eq_false, not_false_eq_true, up_T, up_F, wr_T, wr_F, ngE, ngE', ngL, ngL', ngQ, ngQ']
  rw [k0]
  have hrb := rnA_b g (A 0 0 11)
  have l1 := lpX (n := A 0 0 0) (σ := mm_I) (fun i s => Rn (d + 5) q_M_aYear 3 [some (.inr (12, 0)), some (.inl (nI (rnA A (A 0 0 11)))), some (.inl (nI i)), none] [] s) (fun i s => RepR 0 (yg A i) s ∧ ex12 7 I s ∧ fr gP I s ∧ ∀ p, p < 16 → s 51 0 p = nI (bo A 99 p)) (fun q => ∃ J, (RepR 0 (yg A (A 0 0 0)) J ∧ ex12 7 I J ∧ fr gP I J) ∧ q = Rn (d + 5) q_M_aYear 11 [some (.inr (12, 0)), some (.inl (nI (rnA A (A 0 0 11)))), some (.inl (nI 0)), none] [] J) (by
    rintro i J hi ⟨j1, j2, j3, j4⟩
    have gi := yg_g g i (by omega)
    have hic : i < yg A i 0 0 0 := by rw [yg_o (by decide)]; exact hi
    have o := fun c (hc : c < 9) => s_M_of9 (d + 4) i c _ J j1 gi hic hc
    rw [yg_row i (Nat.le_refl _)] at o
    have hst : J 47 0 0 = nI (A 0 0 0) := by
      have := j1.1 0 (by decide)
      rw [yg_o (by decide)] at this
      exact this
    have hbb := bo_b (x := 99) g i
    obtain ⟨g0, g1, g2, g3, g4, g5, g6, g7, g8, g9, g10, g11⟩ := stG g hi
    have gr := s_M_widerBy (d + 2) (A 1 i 8) (A 1 i 3) (A 1 i 4) (A 1 i 5) (bo A 99 i) (rnA A (A 0 0 11)) J g11 g5 g6 g8 hbb hrb
    have h51 := j4 i (by omega)
    refine Or.inr ⟨mm_up J 47 0 (12 + 9 * i + 5) (nI (gwV A i)), ⟨?_, fun j hj => by rw [up_F (by omega)]; exact j2 j hj, fr_up j3 (by unfold gP; omega), fun p hp => by rw [up_F (by omega)]; exact j4 p hp⟩, ?_⟩
    · rw [yg]
      exact RepR_st (c := 5) j1 gi hic (by decide)
    · simp (disch := omega) only [e_M_aYear_4, e_M_aYear_5, e_M_aYear_6, e_M_aYear_7, e_M_aYear_8, e_M_aYear_9, e_M_aYear_3 (x2 := nI i), hst, h51, lit, nad, nml, bd_s, ct_s, ct_n, b11, b01, o 8 (by decide), o 3 (by decide), o 4 (by decide), o 5 (by decide), gr, lit, nad, nml, bd_s, ct_s, ct_n, a11, a01, aB2, bitA, nlt, nle, neq, dlT, dlF, deT, deF, dqT, dqF, nN, inb, nsb, ndv, nrm, if_true, if_false, ite_true, ite_false, true_and, and_true, and_self, and_false, false_and, or_true, true_or, or_false, false_or, or_self, reduceIte, eq_self, Nat.reduceAdd, Nat.reduceMul, Nat.reduceSub, Nat.reduceDiv, Nat.reduceMod, not_true_eq_false, not_false_eq_true, up_T, up_F, wr_T, wr_F, ngE, ngE', ngL, ngL', ngQ, ngQ', gwV, wrF]) (by
    rintro J ⟨j1, j2, j3, j4⟩
    have hst : J 47 0 0 = nI (A 0 0 0) := by
      have := j1.1 0 (by decide)
      rw [yg_o (by decide)] at this
      exact this
    exact ⟨J, ⟨j1, j2, j3⟩, by simp (disch := omega) only [e_M_aYear_3, e_M_aYear_10, hst, lit, nad, nml, bd_s, ct_s, ct_n, a11, a01, aB2, bitA, nlt, nle, neq, dlT, dlF, deT, deF, dqT, dqF, nN, inb, nsb, ndv, nrm, if_true, if_false, ite_true, ite_false, true_and, and_true, and_self, and_false, false_and, or_true, true_or, or_false, false_or, or_self, reduceIte, eq_self, Nat.reduceAdd, Nat.reduceMul, Nat.reduceSub, Nat.reduceDiv, Nat.reduceMod, not_true_eq_false, not_false_eq_true, up_T, up_F, wr_T, wr_F, ngE, ngE', ngL, ngL', ngQ, ngQ']⟩) 0 I1 (Nat.zero_le _) ⟨hR1, t2', f1, t3⟩
  obtain ⟨J, ⟨j1, j2, j3⟩, k1⟩ := l1
  rw [k1]
  have gy := yg_g g _ (Nat.le_refl (A 0 0 0))
  have c3 : yg A (A 0 0 0) 0 0 3 = A 0 0 3 := by rw [yg_o (by decide)]
  have c5 : yg A (A 0 0 0) 0 0 5 = A 0 0 5 := by rw [yg_o (by decide)]
  have c11 : yg A (A 0 0 0) 0 0 11 = A 0 0 11 := by rw [yg_o (by decide)]
  have hyr' : yrA A = sA (yp (ym (yg A (A 0 0 0)) (A 0 0 3)) (A 0 0 5)) 0 0 11 (A 0 0 11 + 1) := rfl
  rw [hyr']
  generalize yg A (A 0 0 0) = Y at *
  have l2 := lpX (n := A 0 0 3) (σ := mm_I × Option mm_V) (fun i s => Rn (d + 5) q_M_aYear 11 [some (.inr (12, 0)), some (.inl (nI (rnA A (A 0 0 11)))), some (.inl (nI i)), s.2] [] s.1) (fun i s => RepR 0 (ym Y i) s.1 ∧ ex12 7 I s.1 ∧ fr gP I s.1) (fun q => ∃ J v, (RepR 0 (ym Y (A 0 0 3)) J ∧ ex12 7 I J ∧ fr gP I J) ∧ q = Rn (d + 5) q_M_aYear 18 [some (.inr (12, 0)), some (.inl (nI (rnA A (A 0 0 11)))), some (.inl (nI 0)), v] [] J) (by
    rintro i ⟨J, v⟩ hi ⟨j1, j2, j3⟩
    dsimp only at j1 j2 j3 ⊢
    have gB := ym_g gy i (by omega)
    have c0 : ∀ c, ym Y i 0 0 c = Y 0 0 c := fun c => by rw [ym_o (by decide) (by decide)]
    have hiB : i < ym Y i 0 0 3 := by rw [c0]; omega
    have hnx : ym Y (i + 1) = ymS (ym Y i) i := rfl
    rw [hnx]
    generalize ym Y i = B at *
    have b11 : B 0 0 11 = A 0 0 11 := by rw [c0, c11]
    have a0 : J 47 0 (192 + 4 * i) = nI (B 5 i 0) := j1.2.2.2.2 1 i 0 (by decide) hiB (by decide)
    have a1 : J 47 0 (192 + 4 * i + 1) = nI (B 5 i 1) := j1.2.2.2.2 1 i 1 (by decide) hiB (by decide)
    have a2 : J 47 0 (192 + 4 * i + 2) = nI (B 5 i 2) := j1.2.2.2.2 1 i 2 (by decide) hiB (by decide)
    have a3 : J 47 0 (192 + 4 * i + 3) = nI (B 5 i 3) := j1.2.2.2.2 1 i 3 (by decide) hiB (by decide)
    have hm : J 47 0 3 = nI (A 0 0 3) := by rw [← c3, ← c0 3]; exact j1.1 3 (by decide)
    have hyr : J 47 0 11 = nI (A 0 0 11) := by rw [← b11]; exact j1.1 11 (by decide)
    obtain ⟨m0, m1, m2, m3, m4⟩ := mdG gB hiB
    have hbn : B 0 0 0 ≤ 16 := gB.1.1
    right
    by_cases e3 : B 5 i 3 = 0
    · by_cases e2 : B 5 i 2 = B 0 0 11
      · have mt := s_M_mended (d + 3) (B 5 i 0) (B 5 i 1) B J j1 gB m0
        have r1 := RepR_st (c := 8) (v := B 5 i 1) j1 gB m0 (by decide)
        have gs := stG gB m0
        have g1 : Good (sA B 1 (B 5 i 0) 8 (B 5 i 1)) := Good_st gB (StG_k gs m2)
        have r2 := RepR_st (p := B 5 i 0) (c := 5) (v := mn12 (B 1 (B 5 i 0) 5)) r1 g1 (by rw [sA_o (by decide)]; exact m0) (by decide)
        have g2 : Good (sA (sA B 1 (B 5 i 0) 8 (B 5 i 1)) 1 (B 5 i 0) 5 (mn12 (B 1 (B 5 i 0) 5))) := by
          refine Good_st g1 ?_
          rw [sA_r]
          have := gs.2.2.2.2.2.2.2.1
          exact StG_w (StG_k gs m2) (by unfold mn12; split <;> omega) (by unfold mn12; split <;> omega)
        have hq : (sA (sA B 1 (B 5 i 0) 8 (B 5 i 1)) 1 (B 5 i 0) 5 (mn12 (B 1 (B 5 i 0) 5))) 0 0 (tH 1) = B 0 0 3 := by rw [sA_o (by decide), sA_o (by decide)]; rfl
        have r3 := RepR_row (t := 1) (r := i) (c := 3) (v := 1) r2 g2 (by decide) (by rw [hq]; exact hiB) (by decide)
        refine ⟨(mm_up (mm_up (mm_up J 47 0 (12 + 9 * B 5 i 0 + 8) (nI (B 5 i 1))) 47 0 (12 + 9 * B 5 i 0 + 5) (nI (mn12 (B 1 (B 5 i 0) 5)))) 47 0 (192 + 4 * i + 3) (nI 1), some (.inl (nI (192 + 4 * i)))), ⟨?_, ?_, ?_⟩, ?_⟩
        · dsimp only
          rw [ymS, if_pos ⟨e3, e2⟩]
          exact r3
        · intro j hj
          dsimp only
          rw [up_F (by omega), up_F (by omega), up_F (by omega)]
          exact j2 j hj
        · dsimp only
          exact fr_up (fr_up (fr_up j3 (by unfold gP; omega)) (by unfold gP; omega)) (by unfold gP; omega)
        · dsimp only
          simp (disch := omega) only [e_M_aYear_12, e_M_aYear_13, e_M_aYear_14, e_M_aYear_15, e_M_aYear_16, e_M_aYear_11 (x2 := nI i), hm, a0, a1, a2, a3, hyr, mt, lit, nad, nml, bd_s, ct_s, ct_n, a11, a01, aB2, bitA, nlt, nle, neq, dlT, dlF, deT, deF, dqT, dqF, nN, inb, nsb, ndv, nrm, if_true, if_false, ite_true, ite_false, true_and, and_true, and_self, and_false, false_and, or_true, true_or, or_false, false_or, or_self, reduceIte, eq_self, Nat.reduceAdd, Nat.reduceMul, Nat.reduceSub, Nat.reduceDiv, Nat.reduceMod, not_true_eq_false, not_false_eq_true, up_T, up_F, wr_T, wr_F, ngE, ngE', ngL, ngL', ngQ, ngQ']
      · refine ⟨(J, some (.inl (nI (192 + 4 * i)))), ⟨?_, j2, j3⟩, ?_⟩
        · dsimp only
          rw [ymS, if_neg (by omega)]
          exact j1
        · dsimp only
          simp (disch := omega) only [e_M_aYear_12, e_M_aYear_13, e_M_aYear_16, e_M_aYear_11 (x2 := nI i), hm, a0, a1, a2, a3, hyr, lit, nad, nml, bd_s, ct_s, ct_n, a11, a01, aB2, bitA, nlt, nle, neq, dlT, dlF, deT, deF, dqT, dqF, nN, inb, nsb, ndv, nrm, if_true, if_false, ite_true, ite_false, true_and, and_true, and_self, and_false, false_and, or_true, true_or, or_false, false_or, or_self, reduceIte, eq_self, Nat.reduceAdd, Nat.reduceMul, Nat.reduceSub, Nat.reduceDiv, Nat.reduceMod, not_true_eq_false, not_false_eq_true, up_T, up_F, wr_T, wr_F, ngE, ngE', ngL, ngL', ngQ, ngQ']
    · refine ⟨(J, some (.inl (nI (192 + 4 * i)))), ⟨?_, j2, j3⟩, ?_⟩
      · dsimp only
        rw [ymS, if_neg (by omega)]
        exact j1
      · dsimp only
        simp (disch := omega) only [e_M_aYear_12, e_M_aYear_16, e_M_aYear_11 (x2 := nI i), hm, a3, lit, nad, nml, bd_s, ct_s, ct_n, a11, a01, aB2, bitA, nlt, nle, neq, dlT, dlF, deT, deF, dqT, dqF, nN, inb, nsb, ndv, nrm, if_true, if_false, ite_true, ite_false, true_and, and_true, and_self, and_false, false_and, or_true, true_or, or_false, false_or, or_self, reduceIte, eq_self, Nat.reduceAdd, Nat.reduceMul, Nat.reduceSub, Nat.reduceDiv, Nat.reduceMod, not_true_eq_false, not_false_eq_true, up_T, up_F, wr_T, wr_F, ngE, ngE', ngL, ngL', ngQ, ngQ']) (by
    rintro ⟨J, v⟩ ⟨j1, j2, j3⟩
    dsimp only at j1 j2 j3 ⊢
    have hm : J 47 0 3 = nI (A 0 0 3) := by
      have := j1.1 3 (by decide)
      rw [ym_o (by decide) (by decide), c3] at this
      exact this
    exact ⟨J, v, ⟨j1, j2, j3⟩, by simp (disch := omega) only [e_M_aYear_11, e_M_aYear_17, hm, lit, nad, nml, bd_s, ct_s, ct_n, a11, a01, aB2, bitA, nlt, nle, neq, dlT, dlF, deT, deF, dqT, dqF, nN, inb, nsb, ndv, nrm, if_true, if_false, ite_true, ite_false, true_and, and_true, and_self, and_false, false_and, or_true, true_or, or_false, false_or, or_self, reduceIte, eq_self, Nat.reduceAdd, Nat.reduceMul, Nat.reduceSub, Nat.reduceDiv, Nat.reduceMod, not_true_eq_false, not_false_eq_true, up_T, up_F, wr_T, wr_F, ngE, ngE', ngL, ngL', ngQ, ngQ']⟩) 0 (J, none) (Nat.zero_le _) ⟨j1, j2, j3⟩
  obtain ⟨J2, v2, ⟨q1, q2, q3⟩, k2⟩ := l2
  dsimp only at k2
  rw [k2]
  have gm := ym_g gy (A 0 0 3) (by omega)
  have d5 : ym Y (A 0 0 3) 0 0 5 = A 0 0 5 := by rw [ym_o (by decide) (by decide), c5]
  have d11 : ym Y (A 0 0 3) 0 0 11 = A 0 0 11 := by rw [ym_o (by decide) (by decide), c11]
  generalize ym Y (A 0 0 3) = Z at *
  refine lpX (n := A 0 0 5) (σ := mm_I × Option mm_V) (fun i s => Rn (d + 5) q_M_aYear 18 [some (.inr (12, 0)), some (.inl (nI (rnA A (A 0 0 11)))), some (.inl (nI i)), s.2] [] s.1) (fun i s => RepR 0 (yp Z i) s.1 ∧ ex12 7 I s.1 ∧ fr gP I s.1) (fun q => ∃ I', q = some (none, (sh0, I')) ∧ RepR 0 (sA (yp Z (A 0 0 5)) 0 0 11 (A 0 0 11 + 1)) I' ∧ ex12 7 I I' ∧ fr gP I I') ?_ ?_ 0 (J2, v2) (Nat.zero_le _) ⟨q1, q2, q3⟩
  · rintro i ⟨J, v⟩ hi ⟨j1, j2, j3⟩
    dsimp only at j1 j2 j3 ⊢
    have gB := yp_g gm i
    have b5 : yp Z i 0 0 5 = A 0 0 5 := by rw [yp_c (by decide), d5]
    have b11 : yp Z i 0 0 11 = A 0 0 11 := by rw [yp_c (by decide), d11]
    have hnx : yp Z (i + 1) = ypS (yp Z i) i := rfl
    rw [hnx]
    generalize yp Z i = B at *
    have hiB : i < B 0 0 5 := by omega
    have hpu : B 0 0 10 ≤ 999999999 := gB.1.2.2.2.1
    have a0 : J 47 0 (278 + 2 * i) = nI (B 7 i 0) := j1.2.2.2.2 3 i 0 (by decide) hiB (by decide)
    have a1 : J 47 0 (278 + 2 * i + 1) = nI (B 7 i 1) := j1.2.2.2.2 3 i 1 (by decide) hiB (by decide)
    have hm : J 47 0 5 = nI (A 0 0 5) := by rw [← b5]; exact j1.1 5 (by decide)
    have hyr : J 47 0 11 = nI (A 0 0 11) := by rw [← b11]; exact j1.1 11 (by decide)
    have hp : J 47 0 10 = nI (B 0 0 10) := j1.1 10 (by decide)
    obtain ⟨m0, m1, m2⟩ := dnG gB hiB
    right
    by_cases e : B 7 i 0 = B 0 0 11
    · refine ⟨(mm_up J 47 0 10 (nI (if 999999999 ≤ B 0 0 10 + B 7 i 1 then 999999999 else B 0 0 10 + B 7 i 1)), some (.inl (nI 1))), ⟨?_, ?_, ?_⟩, ?_⟩
      · dsimp only
        rw [ypS, if_pos e]
        exact RepR_sc j1 gB (by decide) (by decide)
      · intro j hj
        dsimp only
        rw [up_F (by omega)]
        exact j2 j hj
      · dsimp only
        exact fr_up j3 (by unfold gP; omega)
      · dsimp only
        by_cases e2 : 999999999 < B 0 0 10 + B 7 i 1
        · simp (disch := omega) only [e_M_aYear_19, e_M_aYear_20, e_M_aYear_22, e_M_aYear_23, e_M_aYear_24, e_M_aYear_26, e_M_aYear_18 (x2 := nI i), hm, a0, a1, hyr, hp, s_M_lesser, lit, nad, nml, bd_s, ct_s, ct_n, a11, a01, aB2, bitA, nlt, nle, neq, dlT, dlF, deT, deF, dqT, dqF, nN, inb, nsb, ndv, nrm, if_true, if_false, ite_true, ite_false, true_and, and_true, and_self, and_false, false_and, or_true, true_or, or_false, false_or, or_self, reduceIte, eq_self, Nat.reduceAdd, Nat.reduceMul, Nat.reduceSub, Nat.reduceDiv, Nat.reduceMod, not_true_eq_false, not_false_eq_true, up_T, up_F, wr_T, wr_F, ngE, ngE', ngL, ngL', ngQ, ngQ']
        · by_cases e4 : 999999999 = B 0 0 10 + B 7 i 1
          · simp (disch := omega) only [e_M_aYear_19, e_M_aYear_20, e_M_aYear_22, e_M_aYear_23, e_M_aYear_24, e_M_aYear_26, e_M_aYear_18 (x2 := nI i), hm, a0, a1, hyr, hp, s_M_lesser, lit, nad, nml, bd_s, ct_s, ct_n, a11, a01, aB2, bitA, nlt, nle, neq, dlT, dlF, deT, deF, dqT, dqF, nN, inb, nsb, ndv, nrm, if_true, if_false, ite_true, ite_false, true_and, and_true, and_self, and_false, false_and, or_true, true_or, or_false, false_or, or_self, reduceIte, eq_self, Nat.reduceAdd, Nat.reduceMul, Nat.reduceSub, Nat.reduceDiv, Nat.reduceMod, not_true_eq_false, not_false_eq_true, up_T, up_F, wr_T, wr_F, ngE, ngE', ngL, ngL', ngQ, ngQ']
            rw [← e4]
          · simp (disch := omega) only [e_M_aYear_19, e_M_aYear_20, e_M_aYear_22, e_M_aYear_23, e_M_aYear_24, e_M_aYear_26, e_M_aYear_18 (x2 := nI i), hm, a0, a1, hyr, hp, s_M_lesser, lit, nad, nml, bd_s, ct_s, ct_n, a11, a01, aB2, bitA, nlt, nle, neq, dlT, dlF, deT, deF, dqT, dqF, nN, inb, nsb, ndv, nrm, if_true, if_false, ite_true, ite_false, true_and, and_true, and_self, and_false, false_and, or_true, true_or, or_false, false_or, or_self, reduceIte, eq_self, Nat.reduceAdd, Nat.reduceMul, Nat.reduceSub, Nat.reduceDiv, Nat.reduceMod, not_true_eq_false, not_false_eq_true, up_T, up_F, wr_T, wr_F, ngE, ngE', ngL, ngL', ngQ, ngQ']
    · refine ⟨(mm_up J 47 0 10 (nI (B 0 0 10)), some (.inl (nI 0))), ⟨?_, ?_, ?_⟩, ?_⟩
      · dsimp only
        rw [ypS, if_neg e]
        have e9 : mm_up J 47 0 10 (nI (B 0 0 10)) = J := by
          funext k' i' j'
          by_cases w : k' = 47 ∧ i' = 0 ∧ j' = 10
          · obtain ⟨w1, w2, w3⟩ := w
            subst w1; subst w2; subst w3
            rw [up_s, hp]
          · rw [up_F w]
        rw [e9]
        exact j1
      · intro j hj
        dsimp only
        rw [up_F (by omega)]
        exact j2 j hj
      · dsimp only
        exact fr_up j3 (by unfold gP; omega)
      · dsimp only
        simp (disch := omega) only [e_M_aYear_19, e_M_aYear_21, e_M_aYear_22, e_M_aYear_25, e_M_aYear_26, e_M_aYear_18 (x2 := nI i), hm, a0, a1, hyr, hp, lit, nad, nml, bd_s, ct_s, ct_n, a11, a01, aB2, bitA, nlt, nle, neq, dlT, dlF, deT, deF, dqT, dqF, nN, inb, nsb, ndv, nrm, if_true, if_false, ite_true, ite_false, true_and, and_true, and_self, and_false, false_and, or_true, true_or, or_false, false_or, or_self, reduceIte, eq_self, Nat.reduceAdd, Nat.reduceMul, Nat.reduceSub, Nat.reduceDiv, Nat.reduceMod, not_true_eq_false, not_false_eq_true, up_T, up_F, wr_T, wr_F, ngE, ngE', ngL, ngL', ngQ, ngQ']
  · rintro ⟨J, v⟩ ⟨j1, j2, j3⟩
    dsimp only at j1 j2 j3 ⊢
    have hm : J 47 0 5 = nI (A 0 0 5) := by
      have := j1.1 5 (by decide)
      rw [yp_c (by decide), d5] at this
      exact this
    have hyr : J 47 0 11 = nI (A 0 0 11) := by
      have := j1.1 11 (by decide)
      rw [yp_c (by decide), d11] at this
      exact this
    refine ⟨mm_up J 47 0 11 (nI (A 0 0 11 + 1)), ?_, RepR_sc j1 (yp_g gm _) (by decide) (by decide), fun j hj => by rw [up_F (by omega)]; exact j2 j hj, fr_up j3 (by unfold gP; omega)⟩
    simp (disch := omega) only [e_M_aYear_18, e_M_aYear_27, hm, hyr, lit, nad, nml, bd_s, ct_s, ct_n, a11, a01, aB2, bitA, nlt, nle, neq, dlT, dlF, deT, deF, dqT, dqF, nN, inb, nsb, ndv, nrm, if_true, if_false, ite_true, ite_false, true_and, and_true, and_self, and_false, false_and, or_true, true_or, or_false, false_or, or_self, reduceIte, eq_self, Nat.reduceAdd, Nat.reduceMul, Nat.reduceSub, Nat.reduceDiv, Nat.reduceMod, not_true_eq_false, not_false_eq_true, up_T, up_F, wr_T, wr_F, ngE, ngE', ngL, ngL', ngQ, ngQ']
