/-! findRoster of the reference. -/
theorem gvA_r (A : mm_A) (w j : Nat) : gvA A w j = 2 * (if ablA A w (A 10 j 0) < A 0 0 9 then ablA A w (A 10 j 0) else A 0 0 9) := by
  unfold gvA
  split <;> split <;> omega
theorem pw_b {J w : Nat} (hJ : J ≤ 4) (hw : w ≤ 6) : (J + 1) ^ w ≤ 15625 := Nat.le_trans (Nat.pow_le_pow_left (show J + 1 ≤ 5 by omega) w) (Nat.pow_le_pow_right (by decide) hw)
theorem s_frFill (d : Nat) (A : mm_A) (I : mm_I) (hR : RepR 0 A I) (g : Good A) : ∃ I' v3, Sn (d + 4) q_M_findRoster [.inr (12, 0)] I = Rn (d + 3) q_M_findRoster 7 [some (.inr (12, 0)), some (.inl (nI ((A 0 0 8 + 1) ^ 6))), some (.inl (nI 6)), v3, none, none, none] [] I' ∧ eqo [62] I I' ∧ T62 (A 0 0 8) (gvA A) I' := by
  have hJ : A 0 0 8 ≤ 4 := g.2.1 6 (by decide)
  rw [n_M_findRoster, e_M_findRoster_0]
  refine lpX (n := 6) (σ := Option mm_V × mm_I) (fun w s => Rn (d + 3) q_M_findRoster 1 [some (.inr (12, 0)), some (.inl (nI ((A 0 0 8 + 1) ^ w))), some (.inl (nI w)), s.1, none, none, none] [] s.2) (fun w s => eqo [62] I s.2 ∧ ∀ w', w' < w → s.2 62 0 (5 * w') = nI 0 ∧ ∀ j, j < A 0 0 8 → s.2 62 0 (5 * w' + (j + 1)) = nI (gvA A w' j)) (fun q => ∃ I' v3, q = Rn (d + 3) q_M_findRoster 7 [some (.inr (12, 0)), some (.inl (nI ((A 0 0 8 + 1) ^ 6))), some (.inl (nI 6)), v3, none, none, none] [] I' ∧ eqo [62] I I' ∧ T62 (A 0 0 8) (gvA A) I') ?_ ?_ 0 (none, I) (Nat.zero_le _) ⟨eqo_rf _ _, fun w' hw' => absurd hw' (Nat.not_lt_zero _)⟩
  · rintro w ⟨v, K⟩ hw ⟨k1, k2⟩
    dsimp only at k1 k2 ⊢
    right
    have st : Rn (d + 3) q_M_findRoster 1 [some (.inr (12, 0)), some (.inl (nI ((A 0 0 8 + 1) ^ w))), some (.inl (nI w)), v, none, none, none] [] K = Rn (d + 3) q_M_findRoster 3 [some (.inr (12, 0)), some (.inl (nI ((A 0 0 8 + 1) ^ w))), some (.inl (nI w)), some (.inl (nI 0)), none, none, none] [] (mm_up K 62 0 (5 * w) (nI 0)) := by
      simp (disch := omega) only [e_M_findRoster_2, e_M_findRoster_1 (x2 := nI w), lit, nad, nml, bd_s, ct_s, ct_n, a11, a01, aB2, bitA, nlt, nle, neq, dlT, dlF, deT, deF, dqT, dqF, nN, inb, nsb, ndv, nrm, if_true, if_false, ite_true, ite_false, true_and, and_true, and_self, and_false, false_and, or_true, true_or, or_false, false_or, or_self, ↓reduceIte, eq_self, Nat.reduceAdd, Nat.reduceMul, Nat.reduceSub, Nat.reduceDiv, Nat.reduceMod, Nat.zero_add, Nat.mul_zero, not_true_eq_false, not_false_eq_true, up_T, up_F, wr_T, wr_F, ngE, ngE', ngL, ngL', ngQ, ngQ']
    have inn : ∃ K', Rn (d + 3) q_M_findRoster 3 [some (.inr (12, 0)), some (.inl (nI ((A 0 0 8 + 1) ^ w))), some (.inl (nI w)), some (.inl (nI 0)), none, none, none] [] (mm_up K 62 0 (5 * w) (nI 0)) = Rn (d + 3) q_M_findRoster 6 [some (.inr (12, 0)), some (.inl (nI ((A 0 0 8 + 1) ^ w))), some (.inl (nI w)), some (.inl (nI (A 0 0 8))), none, none, none] [] K' ∧ eqo [62] I K' ∧ (∀ w', w' < w → K' 62 0 (5 * w') = nI 0 ∧ ∀ j, j < A 0 0 8 → K' 62 0 (5 * w' + (j + 1)) = nI (gvA A w' j)) ∧ K' 62 0 (5 * w) = nI 0 ∧ ∀ j, j < A 0 0 8 → K' 62 0 (5 * w + (j + 1)) = nI (gvA A w j) := by
      refine lpX (n := A 0 0 8) (σ := mm_I) (fun j s => Rn (d + 3) q_M_findRoster 3 [some (.inr (12, 0)), some (.inl (nI ((A 0 0 8 + 1) ^ w))), some (.inl (nI w)), some (.inl (nI j)), none, none, none] [] s) (fun j s => eqo [62] I s ∧ (∀ w', w' < w → s 62 0 (5 * w') = nI 0 ∧ ∀ j, j < A 0 0 8 → s 62 0 (5 * w' + (j + 1)) = nI (gvA A w' j)) ∧ s 62 0 (5 * w) = nI 0 ∧ ∀ j', j' < j → s 62 0 (5 * w + (j' + 1)) = nI (gvA A w j')) (fun q => ∃ K', q = Rn (d + 3) q_M_findRoster 6 [some (.inr (12, 0)), some (.inl (nI ((A 0 0 8 + 1) ^ w))), some (.inl (nI w)), some (.inl (nI (A 0 0 8))), none, none, none] [] K' ∧ eqo [62] I K' ∧ (∀ w', w' < w → K' 62 0 (5 * w') = nI 0 ∧ ∀ j, j < A 0 0 8 → K' 62 0 (5 * w' + (j + 1)) = nI (gvA A w' j)) ∧ K' 62 0 (5 * w) = nI 0 ∧ ∀ j, j < A 0 0 8 → K' 62 0 (5 * w + (j + 1)) = nI (gvA A w j)) ?_ ?_ 0 (mm_up K 62 0 (5 * w) (nI 0)) (Nat.zero_le _) ⟨eqo_up k1 (by decide), fun w' hw' => ⟨by rw [up_F (by omega)]; exact (k2 w' hw').1, fun j hj => by rw [up_F (by omega)]; exact (k2 w' hw').2 j hj⟩, up_s _ _ _ _ _, fun j' hj' => absurd hj' (Nat.not_lt_zero _)⟩
      · rintro j L hj ⟨l1, l2, l3, l4⟩
        right
        have hR1 : RepR 0 A L := RepR_o hR (by rw [l1 47 (by decide)])
        have h8 : L 47 0 8 = nI (A 0 0 8) := hR1.1 8 (by decide)
        have sk : L 47 0 (332 + 2 * j + 0) = nI (A 10 j 0) := hR1.2.2.2.2 6 j 0 (by decide) hj (by decide)
        rw [Nat.add_zero] at sk
        have wk := s_M_workers (d + 1) w (A 10 j 0) A L hR1 g
        refine ⟨mm_up L 62 0 (5 * w + j + 1) (nI (gvA A w j)), ⟨eqo_up l1 (by decide), fun w' hw' => ⟨by rw [up_F (by omega)]; exact (l2 w' hw').1, fun j hj => by rw [up_F (by omega)]; exact (l2 w' hw').2 j hj⟩, by rw [up_F (by omega)]; exact l3, fun j' hj' => ?_⟩, ?_⟩
        · by_cases z : j' = j
          · rw [z]; exact up_s _ _ _ _ _
          · rw [up_F (by omega)]; exact l4 j' (by omega)
        · rw [gvA_r]
          simp (disch := omega) only [e_M_findRoster_4, e_M_findRoster_5, e_M_findRoster_3 (x3 := nI j), lit, nad, nml, bd_s, ct_s, ct_n, a11, a01, aB2, bitA, nlt, nle, neq, dlT, dlF, deT, deF, dqT, dqF, nN, inb, nsb, ndv, nrm, if_true, if_false, ite_true, ite_false, true_and, and_true, and_self, and_false, false_and, or_true, true_or, or_false, false_or, or_self, ↓reduceIte, eq_self, Nat.reduceAdd, Nat.reduceMul, Nat.reduceSub, Nat.reduceDiv, Nat.reduceMod, Nat.zero_add, Nat.mul_zero, not_true_eq_false, not_false_eq_true, up_T, up_F, wr_T, wr_F, ngE, ngE', ngL, ngL', ngQ, ngQ', h8, sk, wk]
      · rintro L ⟨l1, l2, l3, l4⟩
        have h8 : L 47 0 8 = nI (A 0 0 8) := by rw [l1 47 (by decide)]; exact hR.1 8 (by decide)
        refine ⟨L, ?_, l1, l2, l3, l4⟩
        simp (disch := omega) only [e_M_findRoster_3, lit, nad, nml, bd_s, ct_s, ct_n, a11, a01, aB2, bitA, nlt, nle, neq, dlT, dlF, deT, deF, dqT, dqF, nN, inb, nsb, ndv, nrm, if_true, if_false, ite_true, ite_false, true_and, and_true, and_self, and_false, false_and, or_true, true_or, or_false, false_or, or_self, ↓reduceIte, eq_self, Nat.reduceAdd, Nat.reduceMul, Nat.reduceSub, Nat.reduceDiv, Nat.reduceMod, Nat.zero_add, Nat.mul_zero, not_true_eq_false, not_false_eq_true, up_T, up_F, wr_T, wr_F, ngE, ngE', ngL, ngL', ngQ, ngQ', h8]
    obtain ⟨K', i1, i2, i3, i4, i5⟩ := inn
    refine ⟨(some (.inl (nI (A 0 0 8))), K'), ⟨i2, fun w' hw' => ?_⟩, ?_⟩
    · dsimp only
      by_cases z : w' = w
      · rw [z]; exact ⟨i4, i5⟩
      · exact i3 w' (by omega)
    · dsimp only
      have h8 : K' 47 0 8 = nI (A 0 0 8) := by rw [i2 47 (by decide)]; exact hR.1 8 (by decide)
      rw [st, i1, Nat.pow_succ]
      simp (disch := omega) only [e_M_findRoster_6, lit, nad, nml, bd_s, ct_s, ct_n, a11, a01, aB2, bitA, nlt, nle, neq, dlT, dlF, deT, deF, dqT, dqF, nN, inb, nsb, ndv, nrm, if_true, if_false, ite_true, ite_false, true_and, and_true, and_self, and_false, false_and, or_true, true_or, or_false, false_or, or_self, ↓reduceIte, eq_self, Nat.reduceAdd, Nat.reduceMul, Nat.reduceSub, Nat.reduceDiv, Nat.reduceMod, Nat.zero_add, Nat.mul_zero, not_true_eq_false, not_false_eq_true, up_T, up_F, wr_T, wr_F, ngE, ngE', ngL, ngL', ngQ, ngQ', h8]
  · rintro ⟨v, K⟩ ⟨k1, k2⟩
    dsimp only at k1 k2 ⊢
    refine ⟨K, v, ?_, k1, k2⟩
    simp (disch := omega) only [e_M_findRoster_1, lit, nad, nml, bd_s, ct_s, ct_n, a11, a01, aB2, bitA, nlt, nle, neq, dlT, dlF, deT, deF, dqT, dqF, nN, inb, nsb, ndv, nrm, if_true, if_false, ite_true, ite_false, true_and, and_true, and_self, and_false, false_and, or_true, true_or, or_false, false_or, or_self, ↓reduceIte, eq_self, Nat.reduceAdd, Nat.reduceMul, Nat.reduceSub, Nat.reduceDiv, Nat.reduceMod, Nat.zero_add, Nat.mul_zero, not_true_eq_false, not_false_eq_true, up_T, up_F, wr_T, wr_F, ngE, ngE', ngL, ngL', ngQ, ngQ']
theorem s_frLeaf (d N x : Nat) (v6 : Option mm_V) (h : Nat → Nat) (A : mm_A) (K : mm_I) (hR : RepR 0 A K) (g : Good A) (hh : ∀ j, j < A 0 0 8 → K 63 0 (j + 1) = nI (h j)) (hb : ∀ j, j < A 0 0 8 → h j ≤ 120) : ∃ w6, Rn (d + 3) q_M_findRoster 11 [some (.inr (12, 0)), some (.inl (nI N)), some (.inl (nI x)), some (.inl (nI 0)), some (.inl (nI 0)), some (.inl (nI 0)), v6] [] K = Rn (d + 3) q_M_findRoster 17 [some (.inr (12, 0)), some (.inl (nI N)), some (.inl (nI x)), some (.inl (nI (mtN (ndA A) h (A 0 0 8)))), some (.inl (nI (dyN (ndA A) h (A 0 0 8)))), some (.inl (nI (A 0 0 8))), w6] [] K := by
  have hJ : A 0 0 8 ≤ 4 := g.2.1 6 (by decide)
  have h8 : K 47 0 8 = nI (A 0 0 8) := hR.1 8 (by decide)
  have hn : ∀ j, j < A 0 0 8 → ndA A j ≤ 60 := fun j hj => (jbG g hj).2.2
  refine lpX (n := A 0 0 8) (σ := Option mm_V) (fun j v => Rn (d + 3) q_M_findRoster 11 [some (.inr (12, 0)), some (.inl (nI N)), some (.inl (nI x)), some (.inl (nI (mtN (ndA A) h j))), some (.inl (nI (dyN (ndA A) h j))), some (.inl (nI j)), v] [] K) (fun _ _ => True) (fun q => ∃ w6, q = Rn (d + 3) q_M_findRoster 17 [some (.inr (12, 0)), some (.inl (nI N)), some (.inl (nI x)), some (.inl (nI (mtN (ndA A) h (A 0 0 8)))), some (.inl (nI (dyN (ndA A) h (A 0 0 8)))), some (.inl (nI (A 0 0 8))), w6] [] K) ?_ ?_ 0 v6 (Nat.zero_le _) trivial
  · intro j v hj _
    right
    have l1 : K 47 0 (332 + 2 * j + 1) = nI (ndA A j) := hR.2.2.2.2 6 j 1 (by decide) hj (by decide)
    have l3 := hh j hj
    have b1 := hb j hj
    have b2' := hn j hj
    have b3 := mt_b (ndA A) h j
    have b4 := dy_b (h := h) hn j (by omega)
    have ls := s_M_lesser (d + 2) (nI (h j)) (nI (ndA A j)) K
    simp only [nlt (show h j < 2147483648 by omega) (show ndA A j < 2147483648 by omega)] at ls
    refine ⟨some (.inl (nI (ndA A j))), trivial, ?_⟩
    rw [mt_s, dy_s]
    by_cases c1 : ndA A j ≤ h j
    · rw [if_pos c1, show (if h j ≤ ndA A j then h j else ndA A j) = ndA A j by split <;> omega]
      rw [if_neg (by omega)] at ls
      simp (disch := omega) only [e_M_findRoster_12, e_M_findRoster_13, e_M_findRoster_14, e_M_findRoster_15, e_M_findRoster_16, e_M_findRoster_11 (x5 := nI j), lit, nad, nml, bd_s, ct_s, ct_n, a11, a01, aB2, bitA, nlt, nle, neq, dlT, dlF, deT, deF, dqT, dqF, nN, inb, nsb, ndv, nrm, if_true, if_false, ite_true, ite_false, true_and, and_true, and_self, and_false, false_and, or_true, true_or, or_false, false_or, or_self, ↓reduceIte, eq_self, Nat.reduceAdd, Nat.reduceMul, Nat.reduceSub, Nat.reduceDiv, Nat.reduceMod, Nat.zero_add, Nat.mul_zero, not_true_eq_false, not_false_eq_true, up_T, up_F, wr_T, wr_F, ngE, ngE', ngL, ngL', ngQ, ngQ', h8, l1, l3, ls]
    · rw [if_neg c1, if_pos (show h j ≤ ndA A j by omega)]
      rw [if_pos (by omega)] at ls
      simp (disch := omega) only [e_M_findRoster_12, e_M_findRoster_13, e_M_findRoster_14, e_M_findRoster_15, e_M_findRoster_16, e_M_findRoster_11 (x5 := nI j), lit, nad, nml, bd_s, ct_s, ct_n, a11, a01, aB2, bitA, nlt, nle, neq, dlT, dlF, deT, deF, dqT, dqF, nN, inb, nsb, ndv, nrm, if_true, if_false, ite_true, ite_false, true_and, and_true, and_self, and_false, false_and, or_true, true_or, or_false, false_or, or_self, ↓reduceIte, eq_self, Nat.reduceAdd, Nat.reduceMul, Nat.reduceSub, Nat.reduceDiv, Nat.reduceMod, Nat.zero_add, Nat.mul_zero, not_true_eq_false, not_false_eq_true, up_T, up_F, wr_T, wr_F, ngE, ngE', ngL, ngL', ngQ, ngQ', h8, l1, l3, ls]
  · intro v _
    refine ⟨v, ?_⟩
    simp (disch := omega) only [e_M_findRoster_11, lit, nad, nml, bd_s, ct_s, ct_n, a11, a01, aB2, bitA, nlt, nle, neq, dlT, dlF, deT, deF, dqT, dqF, nN, inb, nsb, ndv, nrm, if_true, if_false, ite_true, ite_false, true_and, and_true, and_self, and_false, false_and, or_true, true_or, or_false, false_or, or_self, ↓reduceIte, eq_self, Nat.reduceAdd, Nat.reduceMul, Nat.reduceSub, Nat.reduceDiv, Nat.reduceMod, Nat.zero_add, Nat.mul_zero, not_true_eq_false, not_false_eq_true, up_T, up_F, wr_T, wr_F, ngE, ngE', ngL, ngL', ngQ, ngQ', h8]
