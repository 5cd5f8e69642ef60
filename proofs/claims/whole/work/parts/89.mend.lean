/-! Calls: mend. -/
def wtB (A : mm_A) (j m : Nat) : Bool := A 5 m 0 == j && A 5 m 3 == 0
theorem s_Hills_hasMendWaiting (d j : Nat) (A : mm_A) (I : mm_I) (hC : RepC 0 A I) (F : Fix I) (g : Good A) (hj : j < 2147483648) : Sn (d + 3) q_Hills_hasMendWaiting [.inr (3, 0), .inl (nI j)] I = some (some (.inl (nI (b2 (an (wtB A j) (A 0 0 3))))), (sh0, I)) := by
  have hM : A 0 0 3 ≤ 20 := g.2.1 1 (by decide)
  have hm : I 7 1 3 = nI (A 0 0 3) := c0_mn hC (t := 1) (by decide)
  have hN := g.1.1
  rw [n_Hills_hasMendWaiting, e_Hills_hasMendWaiting_0]
  refine lpX (n := A 0 0 3) (σ := Unit) (fun i _ => Rn (d + 2) q_Hills_hasMendWaiting 1 [some (.inr (3, 0)), some (.inl (nI j)), some (.inl (nI i))] [] I) (fun i _ => an (wtB A j) i = false) (fun r => r = _) ?_ ?_ 0 () (Nat.zero_le _) rfl
  · intro i _ hi hV
    have a0 := s_at0 d 1 i 0 A I hC F g (by decide) hi (by decide)
    have a3 := s_at0 d 1 i 3 A I hC F g (by decide) hi (by decide)
    have gm := mdG g hi
    cases w : wtB A j i with
    | true =>
      left
      have hA : an (wtB A j) (A 0 0 3) = true := an_iff.mpr ⟨i, hi, w⟩
      rw [hA]
      unfold wtB at w
      simp only [Bool.and_eq_true, beq_iff_eq] at w
      simp (disch := omega) only [e_Hills_hasMendWaiting_2, e_Hills_hasMendWaiting_3, e_Hills_hasMendWaiting_4, e_Hills_hasMendWaiting_5, e_Hills_hasMendWaiting_6, e_Hills_hasMendWaiting_1 (x2 := nI i), lit, nad, nml, bd_s, ct_s, ct_n, a11, a01, aB2, bitA, nlt, nle, neq, dlT, dlF, deT, deF, dqT, dqF, nN, inb, nsb, ndv, nrm, if_true, if_false, ite_true, ite_false, true_and, and_true, and_self, and_false, false_and, or_true, true_or, or_false, false_or, or_self, ↓reduceIte, eq_self, Nat.reduceAdd, Nat.reduceMul, Nat.reduceSub, Nat.reduceDiv, Nat.reduceMod, Nat.zero_add, Nat.mul_zero, not_true_eq_false, not_false_eq_true, up_T, up_F, wr_T, wr_F, ngE, ngE', ngL, ngL', ngQ, ngQ', hm, a0, a3, show b2 true = 1 from rfl]
    | false =>
      right
      refine ⟨(), by rw [an, hV, w]; rfl, ?_⟩
      unfold wtB at w
      by_cases c1 : A 5 i 0 = j
      · have c2 : A 5 i 3 ≠ 0 := by
          intro q
          rw [c1, q] at w
          simp at w
        simp (disch := omega) only [e_Hills_hasMendWaiting_2, e_Hills_hasMendWaiting_3, e_Hills_hasMendWaiting_4, e_Hills_hasMendWaiting_5, e_Hills_hasMendWaiting_7, e_Hills_hasMendWaiting_1 (x2 := nI i), lit, nad, nml, bd_s, ct_s, ct_n, a11, a01, aB2, bitA, nlt, nle, neq, dlT, dlF, deT, deF, dqT, dqF, nN, inb, nsb, ndv, nrm, if_true, if_false, ite_true, ite_false, true_and, and_true, and_self, and_false, false_and, or_true, true_or, or_false, false_or, or_self, ↓reduceIte, eq_self, Nat.reduceAdd, Nat.reduceMul, Nat.reduceSub, Nat.reduceDiv, Nat.reduceMod, Nat.zero_add, Nat.mul_zero, not_true_eq_false, not_false_eq_true, up_T, up_F, wr_T, wr_F, ngE, ngE', ngL, ngL', ngQ, ngQ', hm, a0, a3]
      · simp (disch := omega) only [e_Hills_hasMendWaiting_2, e_Hills_hasMendWaiting_3, e_Hills_hasMendWaiting_7, e_Hills_hasMendWaiting_1 (x2 := nI i), lit, nad, nml, bd_s, ct_s, ct_n, a11, a01, aB2, bitA, nlt, nle, neq, dlT, dlF, deT, deF, dqT, dqF, nN, inb, nsb, ndv, nrm, if_true, if_false, ite_true, ite_false, true_and, and_true, and_self, and_false, false_and, or_true, true_or, or_false, false_or, or_self, ↓reduceIte, eq_self, Nat.reduceAdd, Nat.reduceMul, Nat.reduceSub, Nat.reduceDiv, Nat.reduceMod, Nat.zero_add, Nat.mul_zero, not_true_eq_false, not_false_eq_true, up_T, up_F, wr_T, wr_F, ngE, ngE', ngL, ngL', ngQ, ngQ', hm, a0]
  · intro _ hV
    rw [hV]
    simp (disch := omega) only [e_Hills_hasMendWaiting_1, e_Hills_hasMendWaiting_8, lit, nad, nml, bd_s, ct_s, ct_n, a11, a01, aB2, bitA, nlt, nle, neq, dlT, dlF, deT, deF, dqT, dqF, nN, inb, nsb, ndv, nrm, if_true, if_false, ite_true, ite_false, true_and, and_true, and_self, and_false, false_and, or_true, true_or, or_false, false_or, or_self, ↓reduceIte, eq_self, Nat.reduceAdd, Nat.reduceMul, Nat.reduceSub, Nat.reduceDiv, Nat.reduceMod, Nat.zero_add, Nat.mul_zero, not_true_eq_false, not_false_eq_true, up_T, up_F, wr_T, wr_F, ngE, ngE', ngL, ngL', ngQ, ngQ', hm, show b2 false = 0 from rfl]
theorem s_M_isWaiting (d j : Nat) (A : mm_A) (I : mm_I) (hR : RepR 0 A I) (g : Good A) (hj : j < 2147483648) : Sn (d + 1) q_M_isWaiting [.inr (12, 0), .inl (nI j)] I = some (some (.inl (nI (b2 (an (wtB A j) (A 0 0 3))))), (sh0, I)) := by
  have hM : A 0 0 3 ≤ 20 := g.2.1 1 (by decide)
  have hm : I 47 0 3 = nI (A 0 0 3) := hR.1 3 (by decide)
  have hN := g.1.1
  rw [n_M_isWaiting, e_M_isWaiting_0]
  refine lpX (n := A 0 0 3) (σ := Unit) (fun i _ => Rn d q_M_isWaiting 1 [some (.inr (12, 0)), some (.inl (nI j)), some (.inl (nI (b2 (an (wtB A j) i)))), some (.inl (nI i))] [] I) (fun _ _ => True) (fun r => r = _) ?_ ?_ 0 () (Nat.zero_le _) trivial
  · intro i _ hi _
    have a0 : I 47 0 (192 + 4 * i) = nI (A 5 i 0) := hR.2.2.2.2 1 i 0 (by decide) hi (by decide)
    have a3 : I 47 0 (192 + 4 * i + 3) = nI (A 5 i 3) := hR.2.2.2.2 1 i 3 (by decide) hi (by decide)
    have gm := mdG g hi
    refine Or.inr ⟨(), trivial, ?_⟩
    rw [an]
    cases q : an (wtB A j) i with
    | true =>
      simp (disch := omega) only [e_M_isWaiting_2, e_M_isWaiting_5, e_M_isWaiting_7, e_M_isWaiting_1 (x3 := nI i), lit, nad, nml, bd_s, ct_s, ct_n, a11, a01, aB2, bitA, nlt, nle, neq, dlT, dlF, deT, deF, dqT, dqF, nN, inb, nsb, ndv, nrm, if_true, if_false, ite_true, ite_false, true_and, and_true, and_self, and_false, false_and, or_true, true_or, or_false, false_or, or_self, ↓reduceIte, eq_self, Nat.reduceAdd, Nat.reduceMul, Nat.reduceSub, Nat.reduceDiv, Nat.reduceMod, Nat.zero_add, Nat.mul_zero, not_true_eq_false, not_false_eq_true, up_T, up_F, wr_T, wr_F, ngE, ngE', ngL, ngL', ngQ, ngQ', hm, Bool.true_or, show b2 true = 1 from rfl]
    | false =>
      rw [Bool.false_or]
      cases w : wtB A j i with
      | true =>
        unfold wtB at w
        simp only [Bool.and_eq_true, beq_iff_eq] at w
        simp (disch := omega) only [e_M_isWaiting_2, e_M_isWaiting_3, e_M_isWaiting_4, e_M_isWaiting_5, e_M_isWaiting_7, e_M_isWaiting_1 (x3 := nI i), lit, nad, nml, bd_s, ct_s, ct_n, a11, a01, aB2, bitA, nlt, nle, neq, dlT, dlF, deT, deF, dqT, dqF, nN, inb, nsb, ndv, nrm, if_true, if_false, ite_true, ite_false, true_and, and_true, and_self, and_false, false_and, or_true, true_or, or_false, false_or, or_self, ↓reduceIte, eq_self, Nat.reduceAdd, Nat.reduceMul, Nat.reduceSub, Nat.reduceDiv, Nat.reduceMod, Nat.zero_add, Nat.mul_zero, not_true_eq_false, not_false_eq_true, up_T, up_F, wr_T, wr_F, ngE, ngE', ngL, ngL', ngQ, ngQ', hm, a0, a3, show b2 true = 1 from rfl, show b2 false = 0 from rfl]
      | false =>
        unfold wtB at w
        by_cases c1 : A 5 i 0 = j
        · have c2 : A 5 i 3 ≠ 0 := by
            intro q
            rw [c1, q] at w
            simp at w
          simp (disch := omega) only [e_M_isWaiting_2, e_M_isWaiting_3, e_M_isWaiting_4, e_M_isWaiting_6, e_M_isWaiting_7, e_M_isWaiting_1 (x3 := nI i), lit, nad, nml, bd_s, ct_s, ct_n, a11, a01, aB2, bitA, nlt, nle, neq, dlT, dlF, deT, deF, dqT, dqF, nN, inb, nsb, ndv, nrm, if_true, if_false, ite_true, ite_false, true_and, and_true, and_self, and_false, false_and, or_true, true_or, or_false, false_or, or_self, ↓reduceIte, eq_self, Nat.reduceAdd, Nat.reduceMul, Nat.reduceSub, Nat.reduceDiv, Nat.reduceMod, Nat.zero_add, Nat.mul_zero, not_true_eq_false, not_false_eq_true, up_T, up_F, wr_T, wr_F, ngE, ngE', ngL, ngL', ngQ, ngQ', hm, a0, a3, show b2 false = 0 from rfl]
        · simp (disch := omega) only [e_M_isWaiting_2, e_M_isWaiting_3, e_M_isWaiting_6, e_M_isWaiting_7, e_M_isWaiting_1 (x3 := nI i), lit, nad, nml, bd_s, ct_s, ct_n, a11, a01, aB2, bitA, nlt, nle, neq, dlT, dlF, deT, deF, dqT, dqF, nN, inb, nsb, ndv, nrm, if_true, if_false, ite_true, ite_false, true_and, and_true, and_self, and_false, false_and, or_true, true_or, or_false, false_or, or_self, ↓reduceIte, eq_self, Nat.reduceAdd, Nat.reduceMul, Nat.reduceSub, Nat.reduceDiv, Nat.reduceMod, Nat.zero_add, Nat.mul_zero, not_true_eq_false, not_false_eq_true, up_T, up_F, wr_T, wr_F, ngE, ngE', ngL, ngL', ngQ, ngQ', hm, a0, show b2 false = 0 from rfl]
  · intro _ _
    simp (disch := omega) only [e_M_isWaiting_1, e_M_isWaiting_8, lit, nad, nml, bd_s, ct_s, ct_n, a11, a01, aB2, bitA, nlt, nle, neq, dlT, dlF, deT, deF, dqT, dqF, nN, inb, nsb, ndv, nrm, if_true, if_false, ite_true, ite_false, true_and, and_true, and_self, and_false, false_and, or_true, true_or, or_false, false_or, or_self, ↓reduceIte, eq_self, Nat.reduceAdd, Nat.reduceMul, Nat.reduceSub, Nat.reduceDiv, Nat.reduceMod, Nat.zero_add, Nat.mul_zero, not_true_eq_false, not_false_eq_true, up_T, up_F, wr_T, wr_F, ngE, ngE', ngL, ngL', ngQ, ngQ', hm]
theorem cl_n (v : Int32) : ∃ n, n ≤ 99999 ∧ clA v = nI n := by
  unfold clA
  by_cases h1 : v < nI 0
  · rw [if_pos h1]; exact ⟨0, by omega, rfl⟩
  · rw [if_neg h1]
    by_cases h2 : nI 99999 < v
    · rw [if_pos h2]; exact ⟨99999, by omega, rfl⟩
    · rw [if_neg h2]
      obtain ⟨j, j1, j2⟩ := nof (n := 99999) (x := v) (by rw [← nI_0]; exact Int32.not_lt.mp h1) (Int32.not_lt.mp h2) (by decide)
      exact ⟨j, j1, j2⟩
theorem ru2_n {A : mm_A} {p k b : Nat} (g : Good A) (hp : p < A 0 0 0) (hk : k ≤ 4) : ∃ n, n ≤ 99999 ∧ ruA A p 2 (nI k) b = nI n := by
  unfold ruA
  cases tc A (A 1 p 6) 2 (A 0 0 2) with
  | none =>
    have hl := (stG g hp).2.2.2.2.1
    refine ⟨10 * A 1 p 2 * (k + 1), ?_, ?_⟩
    · have : 10 * A 1 p 2 * (k + 1) ≤ 990 * 5 := Nat.mul_le_mul (by omega) (by omega)
      omega
    · show nI (10 * A 1 p 2) * (nI k + nI 1) = _
      rw [nad, nml]
  | some t => exact cl_n _
/-- the price -/
noncomputable def prN (A : mm_A) (p k : Nat) : Nat := (ruA A p 2 (nI k) 0).toInt.toNat
theorem pr_n {A : mm_A} {p k : Nat} (g : Good A) (hp : p < A 0 0 0) (hk : k ≤ 4) : ruA A p 2 (nI k) 0 = nI (prN A p k) ∧ prN A p k ≤ 99999 := by
  obtain ⟨n, n1, n2⟩ := ru2_n (b := 0) g hp hk
  unfold prN
  rw [n2, nN (by omega)]
  exact ⟨rfl, n1⟩
noncomputable def mnA (A : mm_A) (j k y : Nat) : mm_A := rowA (sA A 0 0 10 (A 0 0 10 - prN A j k)) 1 j k y
def lvB (A : mm_A) (j k : Nat) : Prop := ruA A j 0 (nI k) 0 = nI 0 ∨ an (wtB A j) (A 0 0 3) = true ∨ A 0 0 10 < prN A j k
theorem x_M_mend (d j k y c pu v : Nat) (I : mm_I) (hc : I 47 0 3 = nI c) (hp : I 47 0 10 = nI pu) (hb : c < 20) (hv : v ≤ pu) (hpu : pu ≤ 999999999) : Rn d q_M_mend 16 [some (.inr (12, 0)), some (.inl (nI j)), some (.inl (nI k)), some (.inl (nI y)), some (.inl (nI v)), none] [] I = some (some (.inl (nI c)), (sh0, mm_up (mm_up (mm_up (mm_up (mm_up (mm_up I 47 0 10 (nI (pu - v))) 47 0 (192 + 4 * c) (nI j)) 47 0 (192 + 4 * c + 1) (nI k)) 47 0 (192 + 4 * c + 2) (nI y)) 47 0 (192 + 4 * c + 3) (nI 0)) 47 0 3 (nI (c + 1)))) := by
  simp (disch := omega) only [e_M_mend_16, lit, nad, nml, bd_s, ct_s, ct_n, a11, a01, aB2, bitA, nlt, nle, neq, dlT, dlF, deT, deF, dqT, dqF, nN, inb, nsb, ndv, nrm, if_true, if_false, ite_true, ite_false, true_and, and_true, and_self, and_false, false_and, or_true, true_or, or_false, false_or, or_self, ↓reduceIte, eq_self, Nat.reduceAdd, Nat.reduceMul, Nat.reduceSub, Nat.reduceDiv, Nat.reduceMod, Nat.zero_add, Nat.mul_zero, not_true_eq_false, not_false_eq_true, up_T, up_F, wr_T, wr_F, ngE, ngE', ngL, ngL', ngQ, ngQ', hc, hp, Nat.add_sub_cancel]
theorem Ok_mend (d : Nat) (t k y : Int32) : Ok (d + 200) q_H_mend q_M_mend [.inl t, .inl k, .inl y] := by
  rcases ix t with ht | ⟨j, hj, ht⟩
  · refine call_id (fun _ => -nI 1000000001) (fun A I _ _ _ _ => ?_) (fun A I hR _ _ _ => ?_)
    · simp (disch := omega) only [n_H_mend, e_H_mend_0, e_H_mend_1, e_H_mend_2, e_H_mend_3, e_H_mend_4, e_H_mend_5, e_H_mend_6, s_H_isStretchN _ _ _ ht, lit, nad, nml, bd_s, ct_s, ct_n, a11, a01, aB2, bitA, nlt, nle, neq, dlT, dlF, deT, deF, dqT, dqF, nN, inb, nsb, ndv, nrm, if_true, if_false, ite_true, ite_false, true_and, and_true, and_self, and_false, false_and, or_true, true_or, or_false, false_or, or_self, ↓reduceIte, eq_self, Nat.reduceAdd, Nat.reduceMul, Nat.reduceSub, Nat.reduceDiv, Nat.reduceMod, Nat.zero_add, Nat.mul_zero, not_true_eq_false, not_false_eq_true, up_T, up_F, wr_T, wr_F, ngE, ngE', ngL, ngL', ngQ, ngQ']
    · simp (disch := omega) only [n_M_mend, e_M_mend_0, e_M_mend_1, e_M_mend_2, e_M_mend_3, e_M_mend_4, e_M_mend_5, e_M_mend_6, s_M_isPathN _ _ _ ht, lit, nad, nml, bd_s, ct_s, ct_n, a11, a01, aB2, bitA, nlt, nle, neq, dlT, dlF, deT, deF, dqT, dqF, nN, inb, nsb, ndv, nrm, if_true, if_false, ite_true, ite_false, true_and, and_true, and_self, and_false, false_and, or_true, true_or, or_false, false_or, or_self, ↓reduceIte, eq_self, Nat.reduceAdd, Nat.reduceMul, Nat.reduceSub, Nat.reduceDiv, Nat.reduceMod, Nat.zero_add, Nat.mul_zero, not_true_eq_false, not_false_eq_true, up_T, up_F, wr_T, wr_F, ngE, ngE', ngL, ngL', ngQ, ngQ']
  subst ht
  by_cases h1 : nI 1 ≤ k ∧ k ≤ nI 4
  rotate_left
  · refine call_id (fun _ => -nI 1000000001) (fun A I hC _ g _ => ?_) (fun A I hR g _ _ => ?_)
    · have hh := s_H_isStretch (d + 197) j A I hC g hj
      by_cases e : j < A 0 0 0 <;> simp only [e, if_true, if_false] at hh <;> simp (disch := omega) only [n_H_mend, e_H_mend_0, e_H_mend_1, e_H_mend_2, e_H_mend_3, e_H_mend_4, e_H_mend_5, e_H_mend_6, s_H_within, lit, nad, nml, bd_s, ct_s, ct_n, a11, a01, aB2, bitA, nlt, nle, neq, dlT, dlF, deT, deF, dqT, dqF, nN, inb, nsb, ndv, nrm, if_true, if_false, ite_true, ite_false, true_and, and_true, and_self, and_false, false_and, or_true, true_or, or_false, false_or, or_self, ↓reduceIte, eq_self, Nat.reduceAdd, Nat.reduceMul, Nat.reduceSub, Nat.reduceDiv, Nat.reduceMod, Nat.zero_add, Nat.mul_zero, not_true_eq_false, not_false_eq_true, up_T, up_F, wr_T, wr_F, ngE, ngE', ngL, ngL', ngQ, ngQ', hh, h1]
    · have hh := s_M_isPath (d + 197) j A I hR g hj
      by_cases e : j < A 0 0 0 <;> simp only [e, if_true, if_false] at hh <;> simp (disch := omega) only [n_M_mend, e_M_mend_0, e_M_mend_1, e_M_mend_2, e_M_mend_3, e_M_mend_4, e_M_mend_5, e_M_mend_6, s_M_in, lit, nad, nml, bd_s, ct_s, ct_n, a11, a01, aB2, bitA, nlt, nle, neq, dlT, dlF, deT, deF, dqT, dqF, nN, inb, nsb, ndv, nrm, if_true, if_false, ite_true, ite_false, true_and, and_true, and_self, and_false, false_and, or_true, true_or, or_false, false_or, or_self, ↓reduceIte, eq_self, Nat.reduceAdd, Nat.reduceMul, Nat.reduceSub, Nat.reduceDiv, Nat.reduceMod, Nat.zero_add, Nat.mul_zero, not_true_eq_false, not_false_eq_true, up_T, up_F, wr_T, wr_F, ngE, ngE', ngL, ngL', ngQ, ngQ', hh, h1]
  obtain ⟨k', k0, k1, k2⟩ := wof h1 (by decide) (by decide)
  subst k2
  by_cases h2 : nI 0 ≤ y ∧ y ≤ nI 200
  rotate_left
  · have hz : ∀ a, a ≤ 300 → ¬ (nI a ≤ y ∧ y ≤ nI 200) := fun a ha z => h2 ⟨Int32.le_trans (by rw [nle (by decide) (by omega)]; omega) z.1, z.2⟩
    refine call_id (fun _ => -nI 1000000001) (fun A I hC _ g _ => ?_) (fun A I hR g _ _ => ?_)
    · have hh := s_H_isStretch (d + 197) j A I hC g hj
      have hyr := hC.1.2.2.2.2
      have hz' := hz _ g.1.2.2.2.2
      by_cases e : j < A 0 0 0 <;> simp only [e, if_true, if_false] at hh <;> simp (disch := omega) only [n_H_mend, e_H_mend_0, e_H_mend_1, e_H_mend_2, e_H_mend_3, e_H_mend_4, e_H_mend_5, e_H_mend_6, s_H_within, lit, nad, nml, bd_s, ct_s, ct_n, a11, a01, aB2, bitA, nlt, nle, neq, dlT, dlF, deT, deF, dqT, dqF, nN, inb, nsb, ndv, nrm, if_true, if_false, ite_true, ite_false, true_and, and_true, and_self, and_false, false_and, or_true, true_or, or_false, false_or, or_self, ↓reduceIte, eq_self, Nat.reduceAdd, Nat.reduceMul, Nat.reduceSub, Nat.reduceDiv, Nat.reduceMod, Nat.zero_add, Nat.mul_zero, not_true_eq_false, not_false_eq_true, up_T, up_F, wr_T, wr_F, ngE, ngE', ngL, ngL', ngQ, ngQ', hh, hyr, hz']
    · have hh := s_M_isPath (d + 197) j A I hR g hj
      have hyr : I 47 0 11 = nI (A 0 0 11) := hR.1 11 (by decide)
      have hz' := hz _ g.1.2.2.2.2
      by_cases e : j < A 0 0 0 <;> simp only [e, if_true, if_false] at hh <;> simp (disch := omega) only [n_M_mend, e_M_mend_0, e_M_mend_1, e_M_mend_2, e_M_mend_3, e_M_mend_4, e_M_mend_5, e_M_mend_6, s_M_in, lit, nad, nml, bd_s, ct_s, ct_n, a11, a01, aB2, bitA, nlt, nle, neq, dlT, dlF, deT, deF, dqT, dqF, nN, inb, nsb, ndv, nrm, if_true, if_false, ite_true, ite_false, true_and, and_true, and_self, and_false, false_and, or_true, true_or, or_false, false_or, or_self, ↓reduceIte, eq_self, Nat.reduceAdd, Nat.reduceMul, Nat.reduceSub, Nat.reduceDiv, Nat.reduceMod, Nat.zero_add, Nat.mul_zero, not_true_eq_false, not_false_eq_true, up_T, up_F, wr_T, wr_F, ngE, ngE', ngL, ngL', ngQ, ngQ', hh, hyr, hz']
  obtain ⟨y', -, y1, y2⟩ := wof h2 (by decide) (by decide)
  subst y2
  have dec : ∀ A, Decidable (lvB A j k') := fun A => Classical.propDecidable _
  refine call_hill (fun A => if j < A 0 0 0 ∧ A 0 0 11 ≤ y' then (if A 0 0 3 < 20 then (if lvB A j k' then -nI 1000000002 else nI (A 0 0 3)) else -nI 1000000003) else -nI 1000000001) (fun A => if j < A 0 0 0 ∧ A 0 0 11 ≤ y' then (if A 0 0 3 < 20 then (if lvB A j k' then A else mnA A j k' y') else A) else A) (fun A I hC F g hy => ?_) (fun A I hR g hy h8 => ?_) (fun A g h => ?_)
  · have hn := g.1.1
    have hh := s_H_isStretch (d + 197) j A I hC g hj
    have hyr := hC.1.2.2.2.2
    by_cases e : j < A 0 0 0
    rotate_left
    · rw [if_neg e] at hh
      have c0 : ¬ (j < A 0 0 0 ∧ A 0 0 11 ≤ y') := fun q => e q.1
      simp only [if_neg c0]
      exact ⟨I, by simp (disch := omega) only [n_H_mend, e_H_mend_0, e_H_mend_1, e_H_mend_2, e_H_mend_3, e_H_mend_4, e_H_mend_5, e_H_mend_6, s_H_within, lit, nad, nml, bd_s, ct_s, ct_n, a11, a01, aB2, bitA, nlt, nle, neq, dlT, dlF, deT, deF, dqT, dqF, nN, inb, nsb, ndv, nrm, if_true, if_false, ite_true, ite_false, true_and, and_true, and_self, and_false, false_and, or_true, true_or, or_false, false_or, or_self, ↓reduceIte, eq_self, Nat.reduceAdd, Nat.reduceMul, Nat.reduceSub, Nat.reduceDiv, Nat.reduceMod, Nat.zero_add, Nat.mul_zero, not_true_eq_false, not_false_eq_true, up_T, up_F, wr_T, wr_F, ngE, ngE', ngL, ngL', ngQ, ngQ', hh], hC, F, fr_rf _ _⟩
    rw [if_pos e] at hh
    by_cases e2 : A 0 0 11 ≤ y'
    rotate_left
    · have c0 : ¬ (j < A 0 0 0 ∧ A 0 0 11 ≤ y') := fun q => e2 q.2
      simp only [if_neg c0]
      exact ⟨I, by simp (disch := omega) only [n_H_mend, e_H_mend_0, e_H_mend_1, e_H_mend_2, e_H_mend_3, e_H_mend_4, e_H_mend_5, e_H_mend_6, s_H_within, lit, nad, nml, bd_s, ct_s, ct_n, a11, a01, aB2, bitA, nlt, nle, neq, dlT, dlF, deT, deF, dqT, dqF, nN, inb, nsb, ndv, nrm, if_true, if_false, ite_true, ite_false, true_and, and_true, and_self, and_false, false_and, or_true, true_or, or_false, false_or, or_self, ↓reduceIte, eq_self, Nat.reduceAdd, Nat.reduceMul, Nat.reduceSub, Nat.reduceDiv, Nat.reduceMod, Nat.zero_add, Nat.mul_zero, not_true_eq_false, not_false_eq_true, up_T, up_F, wr_T, wr_F, ngE, ngE', ngL, ngL', ngQ, ngQ', hh, hyr], hC, F, fr_rf _ _⟩
    have c0 : j < A 0 0 0 ∧ A 0 0 11 ≤ y' := ⟨e, e2⟩
    simp only [if_pos c0]
    have hM : A 0 0 3 ≤ 20 := g.2.1 1 (by decide)
    have hm : I 7 1 3 = nI (A 0 0 3) := c0_mn hC (t := 1) (by decide)
    have hf : I 7 1 1 = nI 20 := (F 1 (by decide)).1
    have hfu := s_Rows_isFull (d + 198) 1 (A 0 0 3) 20 I hf hm (by omega) (by decide)
    by_cases e3 : A 0 0 3 < 20
    rotate_left
    · rw [if_neg e3] at hfu
      simp only [if_neg e3]
      exact ⟨I, by simp (disch := omega) only [n_H_mend, e_H_mend_0, e_H_mend_1, e_H_mend_2, e_H_mend_3, e_H_mend_4, e_H_mend_5, e_H_mend_7, e_H_mend_8, e_H_mend_9, s_H_within, lit, nad, nml, bd_s, ct_s, ct_n, a11, a01, aB2, bitA, nlt, nle, neq, dlT, dlF, deT, deF, dqT, dqF, nN, inb, nsb, ndv, nrm, if_true, if_false, ite_true, ite_false, true_and, and_true, and_self, and_false, false_and, or_true, true_or, or_false, false_or, or_self, ↓reduceIte, eq_self, Nat.reduceAdd, Nat.reduceMul, Nat.reduceSub, Nat.reduceDiv, Nat.reduceMod, Nat.zero_add, Nat.mul_zero, not_true_eq_false, not_false_eq_true, up_T, up_F, wr_T, wr_F, ngE, ngE', ngL, ngL', ngQ, ngQ', hh, hyr, hfu], hC, F, fr_rf _ _⟩
    rw [if_pos e3] at hfu
    simp only [if_pos e3]
    obtain ⟨I1, r1, r2⟩ := s_H_ruled (d + 195) j 0 0 (nI k') A I hC g e (by decide) (fun q => by omega)
    have hC1 := RepC_39 hC g r2 (by decide)
    have F1 := Fix_e F r2 (by decide)
    have hw := s_Hills_hasMendWaiting (d + 196) j A I1 hC1 F1 g hj
    obtain ⟨I2, r3, r4⟩ := s_H_ruled (d + 195) j 2 0 (nI k') A I1 hC1 g e (by decide) (fun q => by omega)
    obtain ⟨p1, p2⟩ := pr_n g e k1
    rw [p1] at r3
    have hC2 := RepC_39 hC1 g r4 (by decide)
    have F2 := Fix_e F1 r4 (by decide)
    have hpu : I2 3 0 7 = nI (A 0 0 10) := hC2.1.2.2.2.1
    have hpb := g.1.2.2.2.1
    by_cases c1 : ruA A j 0 (nI k') 0 = nI 0
    · have c9 : lvB A j k' := (Or.inl c1)
      simp only [if_pos c9]
      refine ⟨I1, ?_, hC1, F1, dC_39 r2 (by decide)⟩
      simp (disch := omega) only [n_H_mend, e_H_mend_0, e_H_mend_1, e_H_mend_2, e_H_mend_3, e_H_mend_4, e_H_mend_5, e_H_mend_7, e_H_mend_8, e_H_mend_10, e_H_mend_11, e_H_mend_14, s_H_within, lit, nad, nml, bd_s, ct_s, ct_n, a11, a01, aB2, bitA, nlt, nle, neq, dlT, dlF, deT, deF, dqT, dqF, nN, inb, nsb, ndv, nrm, if_true, if_false, ite_true, ite_false, true_and, and_true, and_self, and_false, false_and, or_true, true_or, or_false, false_or, or_self, ↓reduceIte, eq_self, Nat.reduceAdd, Nat.reduceMul, Nat.reduceSub, Nat.reduceDiv, Nat.reduceMod, Nat.zero_add, Nat.mul_zero, not_true_eq_false, not_false_eq_true, up_T, up_F, wr_T, wr_F, ngE, ngE', ngL, ngL', ngQ, ngQ', hh, hyr, hfu, r1, c1]
    by_cases c2 : an (wtB A j) (A 0 0 3) = true
    · have c9 : lvB A j k' := (Or.inr (Or.inl c2))
      simp only [if_pos c9]
      rw [c2] at hw
      refine ⟨I1, ?_, hC1, F1, dC_39 r2 (by decide)⟩
      simp (disch := omega) only [n_H_mend, e_H_mend_0, e_H_mend_1, e_H_mend_2, e_H_mend_3, e_H_mend_4, e_H_mend_5, e_H_mend_7, e_H_mend_8, e_H_mend_10, e_H_mend_11, e_H_mend_12, e_H_mend_13, e_H_mend_14, s_H_within, lit, nad, nml, bd_s, ct_s, ct_n, a11, a01, aB2, bitA, nlt, nle, neq, dlT, dlF, deT, deF, dqT, dqF, nN, inb, nsb, ndv, nrm, if_true, if_false, ite_true, ite_false, true_and, and_true, and_self, and_false, false_and, or_true, true_or, or_false, false_or, or_self, ↓reduceIte, eq_self, Nat.reduceAdd, Nat.reduceMul, Nat.reduceSub, Nat.reduceDiv, Nat.reduceMod, Nat.zero_add, Nat.mul_zero, not_true_eq_false, not_false_eq_true, up_T, up_F, wr_T, wr_F, ngE, ngE', ngL, ngL', ngQ, ngQ', hh, hyr, hfu, r1, c1, hw, show b2 true = 1 from rfl]
    have c2' : an (wtB A j) (A 0 0 3) = false := by simpa using c2
    rw [c2'] at hw
    by_cases c3 : A 0 0 10 < prN A j k'
    · have c9 : lvB A j k' := (Or.inr (Or.inr c3))
      simp only [if_pos c9]
      refine ⟨I2, ?_, hC2, F2, fr_tr (dC_39 r2 (by decide)) (dC_39 r4 (by decide))⟩
      simp (disch := omega) only [n_H_mend, e_H_mend_0, e_H_mend_1, e_H_mend_2, e_H_mend_3, e_H_mend_4, e_H_mend_5, e_H_mend_7, e_H_mend_8, e_H_mend_10, e_H_mend_11, e_H_mend_12, e_H_mend_13, e_H_mend_15, e_H_mend_16, e_H_mend_17, s_H_within, lit, nad, nml, bd_s, ct_s, ct_n, a11, a01, aB2, bitA, nlt, nle, neq, dlT, dlF, deT, deF, dqT, dqF, nN, inb, nsb, ndv, nrm, if_true, if_false, ite_true, ite_false, true_and, and_true, and_self, and_false, false_and, or_true, true_or, or_false, false_or, or_self, ↓reduceIte, eq_self, Nat.reduceAdd, Nat.reduceMul, Nat.reduceSub, Nat.reduceDiv, Nat.reduceMod, Nat.zero_add, Nat.mul_zero, not_true_eq_false, not_false_eq_true, up_T, up_F, wr_T, wr_F, ngE, ngE', ngL, ngL', ngQ, ngQ', hh, hyr, hfu, r1, c1, hw, r3, hpu, show b2 false = 0 from rfl]
    have nl : ¬ lvB A j k' := fun q => by
      rcases q with q | q | q
      · exact c1 q
      · exact c2 q
      · exact c3 q
    simp only [if_neg nl]
    have hC3 := RepC_purse (v := A 0 0 10 - prN A j k') hC2
    have F3 : Fix (mm_up I2 3 0 7 (nI (A 0 0 10 - prN A j k'))) := Fix_up F2 (by omega)
    have g3 : Good (sA A 0 0 10 (A 0 0 10 - prN A j k')) := Good_sc g (by decide) (fun q => by omega) (fun _ => by omega) (fun q => by omega)
    have ha := s_add0 (d + 195) 1 j k' y' _ _ hC3 F3 g3 (by decide)
    have hc3 : (sA A 0 0 10 (A 0 0 10 - prN A j k')) 0 0 (tH 1) = A 0 0 3 := sA_F (by decide)
    rw [hc3, if_pos (show A 0 0 3 < tM 1 from e3)] at ha
    have ra := RepC_add0 (t := 1) (x := j) (y := k') (z := y') hC3 (by decide)
    rw [hc3] at ra
    refine ⟨_, ?_, ra, Fix_add F3, fr_tr (fr_up (fr_tr (dC_39 r2 (by decide)) (dC_39 r4 (by decide))) (by unfold dC hc; omega)) (fr_add (by decide))⟩
    simp (disch := omega) only [n_H_mend, e_H_mend_0, e_H_mend_1, e_H_mend_2, e_H_mend_3, e_H_mend_4, e_H_mend_5, e_H_mend_7, e_H_mend_8, e_H_mend_10, e_H_mend_11, e_H_mend_12, e_H_mend_13, e_H_mend_15, e_H_mend_16, e_H_mend_18, e_H_mend_19, s_H_within, lit, nad, nml, bd_s, ct_s, ct_n, a11, a01, aB2, bitA, nlt, nle, neq, dlT, dlF, deT, deF, dqT, dqF, nN, inb, nsb, ndv, nrm, if_true, if_false, ite_true, ite_false, true_and, and_true, and_self, and_false, false_and, or_true, true_or, or_false, false_or, or_self, ↓reduceIte, eq_self, Nat.reduceAdd, Nat.reduceMul, Nat.reduceSub, Nat.reduceDiv, Nat.reduceMod, Nat.zero_add, Nat.mul_zero, not_true_eq_false, not_false_eq_true, up_T, up_F, wr_T, wr_F, ngE, ngE', ngL, ngL', ngQ, ngQ', hh, hyr, hfu, r1, c1, hw, r3, hpu, ha, show b2 false = 0 from rfl]
  · have hn := g.1.1
    have hh := s_M_isPath (d + 197) j A I hR g hj
    have hyr : I 47 0 11 = nI (A 0 0 11) := hR.1 11 (by decide)
    by_cases e : j < A 0 0 0
    rotate_left
    · rw [if_neg e] at hh
      have c0 : ¬ (j < A 0 0 0 ∧ A 0 0 11 ≤ y') := fun q => e q.1
      simp only [if_neg c0]
      exact ⟨I, by simp (disch := omega) only [n_M_mend, e_M_mend_0, e_M_mend_1, e_M_mend_2, e_M_mend_3, e_M_mend_4, e_M_mend_5, e_M_mend_6, s_M_in, lit, nad, nml, bd_s, ct_s, ct_n, a11, a01, aB2, bitA, nlt, nle, neq, dlT, dlF, deT, deF, dqT, dqF, nN, inb, nsb, ndv, nrm, if_true, if_false, ite_true, ite_false, true_and, and_true, and_self, and_false, false_and, or_true, true_or, or_false, false_or, or_self, ↓reduceIte, eq_self, Nat.reduceAdd, Nat.reduceMul, Nat.reduceSub, Nat.reduceDiv, Nat.reduceMod, Nat.zero_add, Nat.mul_zero, not_true_eq_false, not_false_eq_true, up_T, up_F, wr_T, wr_F, ngE, ngE', ngL, ngL', ngQ, ngQ', hh], hR, fr_rf _ _, k12_rf _⟩
    rw [if_pos e] at hh
    by_cases e2 : A 0 0 11 ≤ y'
    rotate_left
    · have c0 : ¬ (j < A 0 0 0 ∧ A 0 0 11 ≤ y') := fun q => e2 q.2
      simp only [if_neg c0]
      exact ⟨I, by simp (disch := omega) only [n_M_mend, e_M_mend_0, e_M_mend_1, e_M_mend_2, e_M_mend_3, e_M_mend_4, e_M_mend_5, e_M_mend_6, s_M_in, lit, nad, nml, bd_s, ct_s, ct_n, a11, a01, aB2, bitA, nlt, nle, neq, dlT, dlF, deT, deF, dqT, dqF, nN, inb, nsb, ndv, nrm, if_true, if_false, ite_true, ite_false, true_and, and_true, and_self, and_false, false_and, or_true, true_or, or_false, false_or, or_self, ↓reduceIte, eq_self, Nat.reduceAdd, Nat.reduceMul, Nat.reduceSub, Nat.reduceDiv, Nat.reduceMod, Nat.zero_add, Nat.mul_zero, not_true_eq_false, not_false_eq_true, up_T, up_F, wr_T, wr_F, ngE, ngE', ngL, ngL', ngQ, ngQ', hh, hyr], hR, fr_rf _ _, k12_rf _⟩
    have c0 : j < A 0 0 0 ∧ A 0 0 11 ≤ y' := ⟨e, e2⟩
    simp only [if_pos c0]
    have hM : A 0 0 3 ≤ 20 := g.2.1 1 (by decide)
    have hm : I 47 0 3 = nI (A 0 0 3) := hR.1 3 (by decide)
    by_cases e3 : A 0 0 3 < 20
    rotate_left
    · simp only [if_neg e3]
      exact ⟨I, by simp (disch := omega) only [n_M_mend, e_M_mend_0, e_M_mend_1, e_M_mend_2, e_M_mend_3, e_M_mend_4, e_M_mend_5, e_M_mend_7, e_M_mend_8, s_M_in, lit, nad, nml, bd_s, ct_s, ct_n, a11, a01, aB2, bitA, nlt, nle, neq, dlT, dlF, deT, deF, dqT, dqF, nN, inb, nsb, ndv, nrm, if_true, if_false, ite_true, ite_false, true_and, and_true, and_self, and_false, false_and, or_true, true_or, or_false, false_or, or_self, ↓reduceIte, eq_self, Nat.reduceAdd, Nat.reduceMul, Nat.reduceSub, Nat.reduceDiv, Nat.reduceMod, Nat.zero_add, Nat.mul_zero, not_true_eq_false, not_false_eq_true, up_T, up_F, wr_T, wr_F, ngE, ngE', ngL, ngL', ngQ, ngQ', hh, hyr, hm], hR, fr_rf _ _, k12_rf _⟩
    simp only [if_pos e3]
    obtain ⟨I1, r1, r2⟩ := s_M_ruled (d + 193) j 2 0 (nI k') A I hR g e (by decide) (fun q => by omega)
    have hR1 : RepR 0 A I1 := RepR_o hR (by rw [r2 47 (by decide)])
    obtain ⟨I2, r3, r4⟩ := s_M_ruled (d + 193) j 0 0 (nI k') A I1 hR1 g e (by decide) (fun q => by omega)
    have hR2 : RepR 0 A I2 := RepR_o hR1 (by rw [r4 47 (by decide)])
    have hw := s_M_isWaiting (d + 198) j A I2 hR2 g hj
    obtain ⟨p1, p2⟩ := pr_n g e k1
    rw [p1] at r1
    have hpu : I2 47 0 10 = nI (A 0 0 10) := hR2.1 10 (by decide)
    have hm2 : I2 47 0 3 = nI (A 0 0 3) := hR2.1 3 (by decide)
    have hpb := g.1.2.2.2.1
    have f2 : fr dM' I I2 := fr_tr (dM_56 r2 (by decide)) (dM_56 r4 (by decide))
    have k2 : k12 I I2 := k12_tr (k12_e r2 (by decide)) (k12_e r4 (by decide))
    by_cases c1 : ruA A j 0 (nI k') 0 = nI 0
    · have c9 : lvB A j k' := (Or.inl c1)
      simp only [if_pos c9]
      refine ⟨I2, ?_, hR2, f2, k2⟩
      simp (disch := omega) only [n_M_mend, e_M_mend_0, e_M_mend_1, e_M_mend_2, e_M_mend_3, e_M_mend_4, e_M_mend_5, e_M_mend_7, e_M_mend_9, e_M_mend_10, e_M_mend_11, e_M_mend_15, s_M_in, lit, nad, nml, bd_s, ct_s, ct_n, a11, a01, aB2, bitA, nlt, nle, neq, dlT, dlF, deT, deF, dqT, dqF, nN, inb, nsb, ndv, nrm, if_true, if_false, ite_true, ite_false, true_and, and_true, and_self, and_false, false_and, or_true, true_or, or_false, false_or, or_self, ↓reduceIte, eq_self, Nat.reduceAdd, Nat.reduceMul, Nat.reduceSub, Nat.reduceDiv, Nat.reduceMod, Nat.zero_add, Nat.mul_zero, not_true_eq_false, not_false_eq_true, up_T, up_F, wr_T, wr_F, ngE, ngE', ngL, ngL', ngQ, ngQ', hh, hyr, hm, r1, r3, c1]
    by_cases c2 : an (wtB A j) (A 0 0 3) = true
    · have c9 : lvB A j k' := (Or.inr (Or.inl c2))
      simp only [if_pos c9]
      rw [c2] at hw
      refine ⟨I2, ?_, hR2, f2, k2⟩
      simp (disch := omega) only [n_M_mend, e_M_mend_0, e_M_mend_1, e_M_mend_2, e_M_mend_3, e_M_mend_4, e_M_mend_5, e_M_mend_7, e_M_mend_9, e_M_mend_10, e_M_mend_11, e_M_mend_12, e_M_mend_13, e_M_mend_15, s_M_in, lit, nad, nml, bd_s, ct_s, ct_n, a11, a01, aB2, bitA, nlt, nle, neq, dlT, dlF, deT, deF, dqT, dqF, nN, inb, nsb, ndv, nrm, if_true, if_false, ite_true, ite_false, true_and, and_true, and_self, and_false, false_and, or_true, true_or, or_false, false_or, or_self, ↓reduceIte, eq_self, Nat.reduceAdd, Nat.reduceMul, Nat.reduceSub, Nat.reduceDiv, Nat.reduceMod, Nat.zero_add, Nat.mul_zero, not_true_eq_false, not_false_eq_true, up_T, up_F, wr_T, wr_F, ngE, ngE', ngL, ngL', ngQ, ngQ', hh, hyr, hm, r1, r3, c1, hw, show b2 true = 1 from rfl]
    have c2' : an (wtB A j) (A 0 0 3) = false := by simpa using c2
    rw [c2'] at hw
    by_cases c3 : A 0 0 10 < prN A j k'
    · have c9 : lvB A j k' := (Or.inr (Or.inr c3))
      simp only [if_pos c9]
      refine ⟨I2, ?_, hR2, f2, k2⟩
      simp (disch := omega) only [n_M_mend, e_M_mend_0, e_M_mend_1, e_M_mend_2, e_M_mend_3, e_M_mend_4, e_M_mend_5, e_M_mend_7, e_M_mend_9, e_M_mend_10, e_M_mend_11, e_M_mend_12, e_M_mend_13, e_M_mend_14, e_M_mend_15, s_M_in, lit, nad, nml, bd_s, ct_s, ct_n, a11, a01, aB2, bitA, nlt, nle, neq, dlT, dlF, deT, deF, dqT, dqF, nN, inb, nsb, ndv, nrm, if_true, if_false, ite_true, ite_false, true_and, and_true, and_self, and_false, false_and, or_true, true_or, or_false, false_or, or_self, ↓reduceIte, eq_self, Nat.reduceAdd, Nat.reduceMul, Nat.reduceSub, Nat.reduceDiv, Nat.reduceMod, Nat.zero_add, Nat.mul_zero, not_true_eq_false, not_false_eq_true, up_T, up_F, wr_T, wr_F, ngE, ngE', ngL, ngL', ngQ, ngQ', hh, hyr, hm, r1, r3, c1, hw, hpu, show b2 false = 0 from rfl]
    have nl : ¬ lvB A j k' := fun q => by
      rcases q with q | q | q
      · exact c1 q
      · exact c2 q
      · exact c3 q
    simp only [if_neg nl]
    have hx := x_M_mend (d + 199) j k' y' _ _ (prN A j k') I2 hm2 hpu e3 (by omega) hpb
    have hs : Sn (d + 200) q_M_mend [.inr (12, 0), .inl (nI j), .inl (nI k'), .inl (nI y')] I = Rn (d + 199) q_M_mend 16 [some (.inr (12, 0)), some (.inl (nI j)), some (.inl (nI k')), some (.inl (nI y')), some (.inl (nI (prN A j k'))), none] [] I2 := by
      simp (disch := omega) only [n_M_mend, e_M_mend_0, e_M_mend_1, e_M_mend_2, e_M_mend_3, e_M_mend_4, e_M_mend_5, e_M_mend_7, e_M_mend_9, e_M_mend_10, e_M_mend_11, e_M_mend_12, e_M_mend_13, e_M_mend_14, s_M_in, lit, nad, nml, bd_s, ct_s, ct_n, a11, a01, aB2, bitA, nlt, nle, neq, dlT, dlF, deT, deF, dqT, dqF, nN, inb, nsb, ndv, nrm, if_true, if_false, ite_true, ite_false, true_and, and_true, and_self, and_false, false_and, or_true, true_or, or_false, false_or, or_self, ↓reduceIte, eq_self, Nat.reduceAdd, Nat.reduceMul, Nat.reduceSub, Nat.reduceDiv, Nat.reduceMod, Nat.zero_add, Nat.mul_zero, not_true_eq_false, not_false_eq_true, up_T, up_F, wr_T, wr_F, ngE, ngE', ngL, ngL', ngQ, ngQ', hh, hyr, hm, r1, r3, c1, hw, hpu, show b2 false = 0 from rfl]
    have g3 : Good (sA A 0 0 10 (A 0 0 10 - prN A j k')) := Good_sc g (by decide) (fun q => by omega) (fun _ => by omega) (fun q => by omega)
    have hR3 := RepR_sc (c := 10) (v := A 0 0 10 - prN A j k') hR2 g (by decide) (by decide)
    have hc3 : (sA A 0 0 10 (A 0 0 10 - prN A j k')) 0 0 (tH 1) = A 0 0 3 := sA_F (by decide)
    refine ⟨_, hs.trans hx, RepR_add (t := 1) hR3 g3 (by decide) (by rw [hc3]; exact e3) ?_ (fun c hc => ?_) (fun i i1 i2 => ?_), ?_, ?_⟩
    · rw [hc3]; exact up_s _ _ _ _ _
    · rw [hc3]
      rcases (show c = 0 ∨ c = 1 ∨ c = 2 ∨ c = 3 by have : c < 4 := hc; omega) with q | q | q | q <;> subst q
      · show mm_up _ 47 0 3 _ 47 0 (192 + 4 * A 0 0 3 + 0) = _
        simp (disch := omega) only [up_T, up_F]
        rfl
      · show mm_up _ 47 0 3 _ 47 0 (192 + 4 * A 0 0 3 + 1) = _
        simp (disch := omega) only [up_T, up_F]
        rfl
      · show mm_up _ 47 0 3 _ 47 0 (192 + 4 * A 0 0 3 + 2) = _
        simp (disch := omega) only [up_T, up_F]
        rfl
      · show mm_up _ 47 0 3 _ 47 0 (192 + 4 * A 0 0 3 + 3) = _
        simp (disch := omega) only [up_T, up_F]
        rfl
    · rw [hc3] at i2
      have i3 : i ≠ 3 := i1
      have i4 : ¬ (192 + 4 * A 0 0 3 ≤ i ∧ i < 192 + 4 * A 0 0 3 + 4) := i2
      simp (disch := omega) only [up_F]
    · exact fr_up (fr_up (fr_up (fr_up (fr_up (fr_up f2 (by unfold dM'; omega)) (by unfold dM'; omega)) (by unfold dM'; omega)) (by unfold dM'; omega)) (by unfold dM'; omega)) (by unfold dM'; omega)
    · exact k12_tr k2 (k12_of (by funext i j'; simp (disch := omega) only [up_F]))
  · split
    · rename_i e
      split
      · rename_i e3
        split
        · exact ⟨g, h, rfl⟩
        · have hpb := g.1.2.2.2.1
          have g3 : Good (sA A 0 0 10 (A 0 0 10 - prN A j k')) := Good_sc g (by decide) (fun q => by omega) (fun _ => by omega) (fun q => by omega)
          have hc3 : (sA A 0 0 10 (A 0 0 10 - prN A j k')) 0 0 (tH 1) = A 0 0 3 := sA_F (by decide)
          unfold mnA
          refine ⟨Good_add g3 (by decide) (by rw [hc3]; exact e3) ?_, by rw [rowA_0 (by decide), sA_F (by decide)]; exact h, by rw [rowA_0 (by decide), sA_F (by decide)]⟩
          rw [sA_F (by decide)]
          unfold rowG ro3
          refine ⟨fun q => by omega, fun _ => ?_, fun q => by omega, fun q => by omega, fun q => by omega, fun q => by omega, fun q => by omega⟩
          simp
          omega
      · exact ⟨g, h, rfl⟩
    · exact ⟨g, h, rfl⟩
