/-! Texts: which counts, what it works out. -/
theorem txG {A : mm_A} (g : Good A) {r : Nat} (h : r < A 0 0 2) : A 3 r 0 ≤ 3 ∧ A 3 r 1 ≤ 3 ∧ A 3 r 2 ≤ 200 ∧ A 3 r 3 ≤ 96 ∧ A 3 r 4 ≤ 96 ∧ (∀ c ∈ cods A r, okC c) ∧ hgt (cods A r) 0 = some 1 := g.2.2.2.2.1 r h
/-- text i counts, as far as it goes by itself -/
def tcB (A : mm_A) (o k i : Nat) : Bool := A 3 i 1 == o && A 3 i 0 == k && decide (A 3 i 2 ≤ A 0 0 11)
def tc (A : mm_A) (o k : Nat) : Nat → Option Nat
  | 0 => none
  | i + 1 => if tcB A o k i = true then (match tc A o k i with
    | none => some i
    | some b => if A 3 b 2 ≤ A 3 i 2 then some i else some b) else tc A o k i
theorem tc_lt {A : mm_A} {o k : Nat} : ∀ {i b : Nat}, tc A o k i = some b → b < i
  | 0, b, h => by cases h
  | i + 1, b, h => by
    rw [tc] at h
    split at h
    · cases e : tc A o k i with
      | none => rw [e] at h; cases h; omega
      | some b' =>
        rw [e] at h
        have := tc_lt e
        dsimp only at h
        split at h <;> cases h <;> omega
    · have := tc_lt h; omega
def fvC (o : Option Nat) : Int32 := match o with
  | none => -nI 1000000005
  | some b => nI b
def fvM (o : Option Nat) : Int32 := match o with
  | none => -nI 1
  | some b => nI b
theorem s_H_textThatCounts (d o k : Nat) (A : mm_A) (I : mm_I) (hC : RepC 0 A I) (g : Good A) (ho : o ≤ 3) (hk : k ≤ 3) : Sn (d + 1) q_H_textThatCounts [.inr (11, 0), .inl (nI o), .inl (nI k)] I = some (some (.inl (fvC (tc A o k (A 0 0 2)))), (sh0, I)) := by
  have hX := g.1.2.1
  have hn : I 3 0 5 = nI (A 0 0 2) := hC.1.2.1
  have hy : I 3 0 4 = nI (A 0 0 11) := hC.1.2.2.2.2
  have hyb := g.1.2.2.2.2
  rw [n_H_textThatCounts, e_H_textThatCounts_0]
  refine lpX (n := A 0 0 2) (σ := Option mm_V) (fun i v => Rn d q_H_textThatCounts 1 [some (.inr (11, 0)), some (.inl (nI o)), some (.inl (nI k)), some (.inl (fvC (tc A o k i))), some (.inl (nI i)), v] [] I) (fun _ _ => True) (fun r => r = _) ?_ ?_ 0 none (Nat.zero_le _) trivial
  · intro i v hi _
    obtain ⟨t1, t2, t3, t4, t5, t6⟩ := hC.2.2.2.2.1 i hi
    obtain ⟨g1, g2, g3, -⟩ := txG g hi
    refine Or.inr ⟨some (.inr (9, i)), trivial, ?_⟩
    cases hB : tcB A o k i with
    | false =>
      have hx : tc A o k (i + 1) = tc A o k i := by rw [tc, hB]; rfl
      rw [hx]
      unfold tcB at hB
      by_cases e1 : A 3 i 1 = o
      · by_cases e2 : A 3 i 0 = k
        · have e3 : ¬ A 3 i 2 ≤ A 0 0 11 := by
            intro q
            rw [e1, e2] at hB
            simp [q] at hB
          simp (disch := omega) only [e_H_textThatCounts_2, e_H_textThatCounts_3, e_H_textThatCounts_4, e_H_textThatCounts_5, e_H_textThatCounts_9, e_H_textThatCounts_1 (x4 := nI i), lit, nad, nml, bd_s, ct_s, ct_n, a11, a01, aB2, bitA, nlt, nle, neq, dlT, dlF, deT, deF, dqT, dqF, nN, inb, nsb, ndv, nrm, if_true, if_false, ite_true, ite_false, true_and, and_true, and_self, and_false, false_and, or_true, true_or, or_false, false_or, or_self, ↓reduceIte, eq_self, Nat.reduceAdd, Nat.reduceMul, Nat.reduceSub, Nat.reduceDiv, Nat.reduceMod, Nat.zero_add, Nat.mul_zero, not_true_eq_false, not_false_eq_true, up_T, up_F, wr_T, wr_F, ngE, ngE', ngL, ngL', ngQ, ngQ', hn, hy, t1, t2, t3]
        · simp (disch := omega) only [e_H_textThatCounts_2, e_H_textThatCounts_3, e_H_textThatCounts_9, e_H_textThatCounts_1 (x4 := nI i), lit, nad, nml, bd_s, ct_s, ct_n, a11, a01, aB2, bitA, nlt, nle, neq, dlT, dlF, deT, deF, dqT, dqF, nN, inb, nsb, ndv, nrm, if_true, if_false, ite_true, ite_false, true_and, and_true, and_self, and_false, false_and, or_true, true_or, or_false, false_or, or_self, ↓reduceIte, eq_self, Nat.reduceAdd, Nat.reduceMul, Nat.reduceSub, Nat.reduceDiv, Nat.reduceMod, Nat.zero_add, Nat.mul_zero, not_true_eq_false, not_false_eq_true, up_T, up_F, wr_T, wr_F, ngE, ngE', ngL, ngL', ngQ, ngQ', hn, t1, t2, t3]
      · simp (disch := omega) only [e_H_textThatCounts_2, e_H_textThatCounts_9, e_H_textThatCounts_1 (x4 := nI i), lit, nad, nml, bd_s, ct_s, ct_n, a11, a01, aB2, bitA, nlt, nle, neq, dlT, dlF, deT, deF, dqT, dqF, nN, inb, nsb, ndv, nrm, if_true, if_false, ite_true, ite_false, true_and, and_true, and_self, and_false, false_and, or_true, true_or, or_false, false_or, or_self, ↓reduceIte, eq_self, Nat.reduceAdd, Nat.reduceMul, Nat.reduceSub, Nat.reduceDiv, Nat.reduceMod, Nat.zero_add, Nat.mul_zero, not_true_eq_false, not_false_eq_true, up_T, up_F, wr_T, wr_F, ngE, ngE', ngL, ngL', ngQ, ngQ', hn, t1, t2, t3]
    | true =>
      have hB2 := hB
      unfold tcB at hB2
      simp only [Bool.and_eq_true, beq_iff_eq, decide_eq_true_eq] at hB2
      obtain ⟨⟨e1, e2⟩, e3⟩ := hB2
      cases hp : tc A o k i with
      | none =>
        have hx : tc A o k (i + 1) = some i := by rw [tc, hB, hp]; rfl
        rw [hx]
        simp (disch := omega) only [e_H_textThatCounts_2, e_H_textThatCounts_3, e_H_textThatCounts_4, e_H_textThatCounts_6, e_H_textThatCounts_8, e_H_textThatCounts_9, e_H_textThatCounts_1 (x4 := nI i), lit, nad, nml, bd_s, ct_s, ct_n, a11, a01, aB2, bitA, nlt, nle, neq, dlT, dlF, deT, deF, dqT, dqF, nN, inb, nsb, ndv, nrm, if_true, if_false, ite_true, ite_false, true_and, and_true, and_self, and_false, false_and, or_true, true_or, or_false, false_or, or_self, ↓reduceIte, eq_self, Nat.reduceAdd, Nat.reduceMul, Nat.reduceSub, Nat.reduceDiv, Nat.reduceMod, Nat.zero_add, Nat.mul_zero, not_true_eq_false, not_false_eq_true, up_T, up_F, wr_T, wr_F, ngE, ngE', ngL, ngL', ngQ, ngQ', hn, hy, t1, t2, t3, fvC]
      | some b =>
        have hb := tc_lt hp
        obtain ⟨u1, u2, u3, -⟩ := hC.2.2.2.2.1 b (by omega)
        obtain ⟨v1, v2, v3, -⟩ := txG g (show b < A 0 0 2 by omega)
        by_cases e4 : A 3 b 2 ≤ A 3 i 2
        · have hx : tc A o k (i + 1) = some i := by rw [tc, hB, hp]; simp [e4]
          rw [hx]
          simp (disch := omega) only [e_H_textThatCounts_2, e_H_textThatCounts_3, e_H_textThatCounts_4, e_H_textThatCounts_6, e_H_textThatCounts_7, e_H_textThatCounts_8, e_H_textThatCounts_9, e_H_textThatCounts_1 (x4 := nI i), lit, nad, nml, bd_s, ct_s, ct_n, a11, a01, aB2, bitA, nlt, nle, neq, dlT, dlF, deT, deF, dqT, dqF, nN, inb, nsb, ndv, nrm, if_true, if_false, ite_true, ite_false, true_and, and_true, and_self, and_false, false_and, or_true, true_or, or_false, false_or, or_self, ↓reduceIte, eq_self, Nat.reduceAdd, Nat.reduceMul, Nat.reduceSub, Nat.reduceDiv, Nat.reduceMod, Nat.zero_add, Nat.mul_zero, not_true_eq_false, not_false_eq_true, up_T, up_F, wr_T, wr_F, ngE, ngE', ngL, ngL', ngQ, ngQ', hn, hy, t1, t2, t3, u3, fvC]
        · have hx : tc A o k (i + 1) = some b := by rw [tc, hB, hp]; simp [e4]
          rw [hx]
          simp (disch := omega) only [e_H_textThatCounts_2, e_H_textThatCounts_3, e_H_textThatCounts_4, e_H_textThatCounts_6, e_H_textThatCounts_7, e_H_textThatCounts_9, e_H_textThatCounts_1 (x4 := nI i), lit, nad, nml, bd_s, ct_s, ct_n, a11, a01, aB2, bitA, nlt, nle, neq, dlT, dlF, deT, deF, dqT, dqF, nN, inb, nsb, ndv, nrm, if_true, if_false, ite_true, ite_false, true_and, and_true, and_self, and_false, false_and, or_true, true_or, or_false, false_or, or_self, ↓reduceIte, eq_self, Nat.reduceAdd, Nat.reduceMul, Nat.reduceSub, Nat.reduceDiv, Nat.reduceMod, Nat.zero_add, Nat.mul_zero, not_true_eq_false, not_false_eq_true, up_T, up_F, wr_T, wr_F, ngE, ngE', ngL, ngL', ngQ, ngQ', hn, hy, t1, t2, t3, u3, fvC]
  · intro v _
    simp (disch := omega) only [e_H_textThatCounts_1, e_H_textThatCounts_10, lit, nad, nml, bd_s, ct_s, ct_n, a11, a01, aB2, bitA, nlt, nle, neq, dlT, dlF, deT, deF, dqT, dqF, nN, inb, nsb, ndv, nrm, if_true, if_false, ite_true, ite_false, true_and, and_true, and_self, and_false, false_and, or_true, true_or, or_false, false_or, or_self, ↓reduceIte, eq_self, Nat.reduceAdd, Nat.reduceMul, Nat.reduceSub, Nat.reduceDiv, Nat.reduceMod, Nat.zero_add, Nat.mul_zero, not_true_eq_false, not_false_eq_true, up_T, up_F, wr_T, wr_F, ngE, ngE', ngL, ngL', ngQ, ngQ', hn]
theorem tdv {a b : Nat} (hb : b ≤ 96) : (1000 * a + b) / 1000 = a := by omega
theorem s_M_counts (d o k : Nat) (A : mm_A) (I : mm_I) (hR : RepR 0 A I) (g : Good A) (ho : o ≤ 3) (hk : k ≤ 3) : Sn (d + 1) q_M_counts [.inr (12, 0), .inl (nI o), .inl (nI k)] I = some (some (.inl (fvM (tc A o k (A 0 0 2)))), (sh0, I)) := by
  have hX := g.1.2.1
  have hn : I 47 0 2 = nI (A 0 0 2) := hR.1 2 (by decide)
  have hy : I 47 0 11 = nI (A 0 0 11) := hR.1 11 (by decide)
  have hyb := g.1.2.2.2.2
  rw [n_M_counts, e_M_counts_0]
  refine lpX (n := A 0 0 2) (σ := Option mm_V × Option mm_V) (fun i v => Rn d q_M_counts 1 [some (.inr (12, 0)), some (.inl (nI o)), some (.inl (nI k)), some (.inl (fvM (tc A o k i))), some (.inl (nI i)), v.1, v.2] [] I) (fun _ _ => True) (fun r => r = _) ?_ ?_ 0 (none, none) (Nat.zero_le _) trivial
  · rintro i ⟨v, w⟩ hi _
    obtain ⟨t1, t2, t3, t4, t5⟩ := hR.2.2.2.1 i hi
    obtain ⟨g1, g2, g3, g4, g5, -⟩ := txG g hi
    have hd := tdv (a := A 3 i 0) g5
    cases hB : tcB A o k i with
    | false =>
      refine Or.inr ⟨(some (.inl (nI (541 + 4 * i))), some (.inl (nI 0))), trivial, ?_⟩
      have hx : tc A o k (i + 1) = tc A o k i := by rw [tc, hB]; rfl
      rw [hx]
      unfold tcB at hB
      dsimp only
      by_cases e2 : A 3 i 0 = k
      · by_cases e1 : A 3 i 1 = o
        · have e3 : ¬ A 3 i 2 ≤ A 0 0 11 := by
            intro q
            rw [e1, e2] at hB
            simp [q] at hB
          simp (disch := omega) only [e_M_counts_2, e_M_counts_3, e_M_counts_4, e_M_counts_6, e_M_counts_7, e_M_counts_11, e_M_counts_12, e_M_counts_1 (x4 := nI i), lit, nad, nml, bd_s, ct_s, ct_n, a11, a01, aB2, bitA, nlt, nle, neq, dlT, dlF, deT, deF, dqT, dqF, nN, inb, nsb, ndv, nrm, if_true, if_false, ite_true, ite_false, true_and, and_true, and_self, and_false, false_and, or_true, true_or, or_false, false_or, or_self, ↓reduceIte, eq_self, Nat.reduceAdd, Nat.reduceMul, Nat.reduceSub, Nat.reduceDiv, Nat.reduceMod, Nat.zero_add, Nat.mul_zero, not_true_eq_false, not_false_eq_true, up_T, up_F, wr_T, wr_F, ngE, ngE', ngL, ngL', ngQ, ngQ', hn, hy, t1, t2, t3, hd]
        · simp (disch := omega) only [e_M_counts_2, e_M_counts_3, e_M_counts_6, e_M_counts_7, e_M_counts_11, e_M_counts_12, e_M_counts_1 (x4 := nI i), lit, nad, nml, bd_s, ct_s, ct_n, a11, a01, aB2, bitA, nlt, nle, neq, dlT, dlF, deT, deF, dqT, dqF, nN, inb, nsb, ndv, nrm, if_true, if_false, ite_true, ite_false, true_and, and_true, and_self, and_false, false_and, or_true, true_or, or_false, false_or, or_self, ↓reduceIte, eq_self, Nat.reduceAdd, Nat.reduceMul, Nat.reduceSub, Nat.reduceDiv, Nat.reduceMod, Nat.zero_add, Nat.mul_zero, not_true_eq_false, not_false_eq_true, up_T, up_F, wr_T, wr_F, ngE, ngE', ngL, ngL', ngQ, ngQ', hn, t1, t2, t3, hd]
      · simp (disch := omega) only [e_M_counts_2, e_M_counts_6, e_M_counts_7, e_M_counts_11, e_M_counts_12, e_M_counts_1 (x4 := nI i), lit, nad, nml, bd_s, ct_s, ct_n, a11, a01, aB2, bitA, nlt, nle, neq, dlT, dlF, deT, deF, dqT, dqF, nN, inb, nsb, ndv, nrm, if_true, if_false, ite_true, ite_false, true_and, and_true, and_self, and_false, false_and, or_true, true_or, or_false, false_or, or_self, ↓reduceIte, eq_self, Nat.reduceAdd, Nat.reduceMul, Nat.reduceSub, Nat.reduceDiv, Nat.reduceMod, Nat.zero_add, Nat.mul_zero, not_true_eq_false, not_false_eq_true, up_T, up_F, wr_T, wr_F, ngE, ngE', ngL, ngL', ngQ, ngQ', hn, t1, t2, t3, hd]
    | true =>
      refine Or.inr ⟨(some (.inl (nI (541 + 4 * i))), some (.inl (nI 1))), trivial, ?_⟩
      dsimp only
      have hB2 := hB
      unfold tcB at hB2
      simp only [Bool.and_eq_true, beq_iff_eq, decide_eq_true_eq] at hB2
      obtain ⟨⟨e1, e2⟩, e3⟩ := hB2
      cases hp : tc A o k i with
      | none =>
        have hx : tc A o k (i + 1) = some i := by rw [tc, hB, hp]; rfl
        rw [hx]
        have hq : (-nI 1 < nI 0) = True := ngL' (by decide) (by decide) (by decide)
        simp (disch := omega) only [e_M_counts_2, e_M_counts_3, e_M_counts_4, e_M_counts_5, e_M_counts_7, e_M_counts_8, e_M_counts_10, e_M_counts_12, e_M_counts_1 (x4 := nI i), lit, nad, nml, bd_s, ct_s, ct_n, a11, a01, aB2, bitA, nlt, nle, neq, dlT, dlF, deT, deF, dqT, dqF, nN, inb, nsb, ndv, nrm, if_true, if_false, ite_true, ite_false, true_and, and_true, and_self, and_false, false_and, or_true, true_or, or_false, false_or, or_self, ↓reduceIte, eq_self, Nat.reduceAdd, Nat.reduceMul, Nat.reduceSub, Nat.reduceDiv, Nat.reduceMod, Nat.zero_add, Nat.mul_zero, not_true_eq_false, not_false_eq_true, up_T, up_F, wr_T, wr_F, ngE, ngE', ngL, ngL', ngQ, ngQ', hn, hy, t1, t2, t3, hd, fvM, hq]
      | some b =>
        have hb := tc_lt hp
        obtain ⟨u1, u2, u3, -⟩ := hR.2.2.2.1 b (by omega)
        obtain ⟨v1, v2, v3, -⟩ := txG g (show b < A 0 0 2 by omega)
        by_cases e4 : A 3 b 2 ≤ A 3 i 2
        · have hx : tc A o k (i + 1) = some i := by rw [tc, hB, hp]; simp [e4]
          rw [hx]
          simp (disch := omega) only [e_M_counts_2, e_M_counts_3, e_M_counts_4, e_M_counts_5, e_M_counts_7, e_M_counts_8, e_M_counts_9, e_M_counts_10, e_M_counts_12, e_M_counts_1 (x4 := nI i), lit, nad, nml, bd_s, ct_s, ct_n, a11, a01, aB2, bitA, nlt, nle, neq, dlT, dlF, deT, deF, dqT, dqF, nN, inb, nsb, ndv, nrm, if_true, if_false, ite_true, ite_false, true_and, and_true, and_self, and_false, false_and, or_true, true_or, or_false, false_or, or_self, ↓reduceIte, eq_self, Nat.reduceAdd, Nat.reduceMul, Nat.reduceSub, Nat.reduceDiv, Nat.reduceMod, Nat.zero_add, Nat.mul_zero, not_true_eq_false, not_false_eq_true, up_T, up_F, wr_T, wr_F, ngE, ngE', ngL, ngL', ngQ, ngQ', hn, hy, t1, t2, t3, hd, u3, fvM]
        · have hx : tc A o k (i + 1) = some b := by rw [tc, hB, hp]; simp [e4]
          rw [hx]
          simp (disch := omega) only [e_M_counts_2, e_M_counts_3, e_M_counts_4, e_M_counts_5, e_M_counts_7, e_M_counts_8, e_M_counts_9, e_M_counts_11, e_M_counts_12, e_M_counts_1 (x4 := nI i), lit, nad, nml, bd_s, ct_s, ct_n, a11, a01, aB2, bitA, nlt, nle, neq, dlT, dlF, deT, deF, dqT, dqF, nN, inb, nsb, ndv, nrm, if_true, if_false, ite_true, ite_false, true_and, and_true, and_self, and_false, false_and, or_true, true_or, or_false, false_or, or_self, ↓reduceIte, eq_self, Nat.reduceAdd, Nat.reduceMul, Nat.reduceSub, Nat.reduceDiv, Nat.reduceMod, Nat.zero_add, Nat.mul_zero, not_true_eq_false, not_false_eq_true, up_T, up_F, wr_T, wr_F, ngE, ngE', ngL, ngL', ngQ, ngQ', hn, hy, t1, t2, t3, hd, u3, fvM]
  · rintro ⟨v, w⟩ _
    simp (disch := omega) only [e_M_counts_1, e_M_counts_13, lit, nad, nml, bd_s, ct_s, ct_n, a11, a01, aB2, bitA, nlt, nle, neq, dlT, dlF, deT, deF, dqT, dqF, nN, inb, nsb, ndv, nrm, if_true, if_false, ite_true, ite_false, true_and, and_true, and_self, and_false, false_and, or_true, true_or, or_false, false_or, or_self, ↓reduceIte, eq_self, Nat.reduceAdd, Nat.reduceMul, Nat.reduceSub, Nat.reduceDiv, Nat.reduceMod, Nat.zero_add, Nat.mul_zero, not_true_eq_false, not_false_eq_true, up_T, up_F, wr_T, wr_F, ngE, ngE', ngL, ngL', ngQ, ngQ', hn]
theorem Ok_why (d : Nat) (o k : Int32) : Ok (d + 200) q_H_why q_M_why [.inl o, .inl k] := by
  by_cases h1 : nI 0 ≤ o ∧ o ≤ nI 3
  rotate_left
  · refine call_id (fun _ => -nI 1000000001) (fun A I _ _ _ _ => ?_) (fun A I _ _ _ _ => ?_)
    · simp (disch := omega) only [n_H_why, e_H_why_0, e_H_why_1, e_H_why_2, e_H_why_3, e_H_why_4, e_H_why_5, e_H_why_6, s_H_within, lit, nad, nml, bd_s, ct_s, ct_n, a11, a01, aB2, bitA, nlt, nle, neq, dlT, dlF, deT, deF, dqT, dqF, nN, inb, nsb, ndv, nrm, if_true, if_false, ite_true, ite_false, true_and, and_true, and_self, and_false, false_and, or_true, true_or, or_false, false_or, or_self, ↓reduceIte, eq_self, Nat.reduceAdd, Nat.reduceMul, Nat.reduceSub, Nat.reduceDiv, Nat.reduceMod, Nat.zero_add, Nat.mul_zero, not_true_eq_false, not_false_eq_true, up_T, up_F, wr_T, wr_F, ngE, ngE', ngL, ngL', ngQ, ngQ', h1]
    · simp (disch := omega) only [n_M_why, e_M_why_0, e_M_why_1, e_M_why_2, e_M_why_3, e_M_why_4, e_M_why_5, e_M_why_6, e_M_why_7, e_M_why_8, e_M_why_9, s_M_in, lit, nad, nml, bd_s, ct_s, ct_n, a11, a01, aB2, bitA, nlt, nle, neq, dlT, dlF, deT, deF, dqT, dqF, nN, inb, nsb, ndv, nrm, if_true, if_false, ite_true, ite_false, true_and, and_true, and_self, and_false, false_and, or_true, true_or, or_false, false_or, or_self, ↓reduceIte, eq_self, Nat.reduceAdd, Nat.reduceMul, Nat.reduceSub, Nat.reduceDiv, Nat.reduceMod, Nat.zero_add, Nat.mul_zero, not_true_eq_false, not_false_eq_true, up_T, up_F, wr_T, wr_F, ngE, ngE', ngL, ngL', ngQ, ngQ', h1]
  obtain ⟨o', -, o1, o2⟩ := wof h1 (by decide) (by decide)
  subst o2
  by_cases h2 : nI 0 ≤ k ∧ k ≤ nI 3
  rotate_left
  · refine call_id (fun _ => -nI 1000000001) (fun A I _ _ _ _ => ?_) (fun A I _ _ _ _ => ?_)
    · simp (disch := omega) only [n_H_why, e_H_why_0, e_H_why_1, e_H_why_2, e_H_why_3, e_H_why_4, e_H_why_5, e_H_why_6, s_H_within, lit, nad, nml, bd_s, ct_s, ct_n, a11, a01, aB2, bitA, nlt, nle, neq, dlT, dlF, deT, deF, dqT, dqF, nN, inb, nsb, ndv, nrm, if_true, if_false, ite_true, ite_false, true_and, and_true, and_self, and_false, false_and, or_true, true_or, or_false, false_or, or_self, ↓reduceIte, eq_self, Nat.reduceAdd, Nat.reduceMul, Nat.reduceSub, Nat.reduceDiv, Nat.reduceMod, Nat.zero_add, Nat.mul_zero, not_true_eq_false, not_false_eq_true, up_T, up_F, wr_T, wr_F, ngE, ngE', ngL, ngL', ngQ, ngQ', h2]
    · simp (disch := omega) only [n_M_why, e_M_why_0, e_M_why_1, e_M_why_2, e_M_why_3, e_M_why_4, e_M_why_5, e_M_why_6, e_M_why_7, e_M_why_8, e_M_why_9, s_M_in, lit, nad, nml, bd_s, ct_s, ct_n, a11, a01, aB2, bitA, nlt, nle, neq, dlT, dlF, deT, deF, dqT, dqF, nN, inb, nsb, ndv, nrm, if_true, if_false, ite_true, ite_false, true_and, and_true, and_self, and_false, false_and, or_true, true_or, or_false, false_or, or_self, ↓reduceIte, eq_self, Nat.reduceAdd, Nat.reduceMul, Nat.reduceSub, Nat.reduceDiv, Nat.reduceMod, Nat.zero_add, Nat.mul_zero, not_true_eq_false, not_false_eq_true, up_T, up_F, wr_T, wr_F, ngE, ngE', ngL, ngL', ngQ, ngQ', h2]
  obtain ⟨k', -, k1, k2⟩ := wof h2 (by decide) (by decide)
  subst k2
  refine call_id (fun A => fvC (tc A o' k' (A 0 0 2))) (fun A I hC _ g _ => ?_) (fun A I hR g _ _ => ?_)
  · have := s_H_textThatCounts (d + 198) o' k' A I hC g o1 k1
    simp (disch := omega) only [n_H_why, e_H_why_0, e_H_why_1, e_H_why_2, e_H_why_3, e_H_why_4, e_H_why_5, e_H_why_6, s_H_within, lit, nad, nml, bd_s, ct_s, ct_n, a11, a01, aB2, bitA, nlt, nle, neq, dlT, dlF, deT, deF, dqT, dqF, nN, inb, nsb, ndv, nrm, if_true, if_false, ite_true, ite_false, true_and, and_true, and_self, and_false, false_and, or_true, true_or, or_false, false_or, or_self, ↓reduceIte, eq_self, Nat.reduceAdd, Nat.reduceMul, Nat.reduceSub, Nat.reduceDiv, Nat.reduceMod, Nat.zero_add, Nat.mul_zero, not_true_eq_false, not_false_eq_true, up_T, up_F, wr_T, wr_F, ngE, ngE', ngL, ngL', ngQ, ngQ', this]
  · have := s_M_counts (d + 198) o' k' A I hR g o1 k1
    have hX := g.1.2.1
    cases e : tc A o' k' (A 0 0 2) with
    | none =>
      rw [e] at this
      have hq : (-nI 1 < nI 0) = True := ngL' (by decide) (by decide) (by decide)
      simp (disch := omega) only [n_M_why, e_M_why_0, e_M_why_1, e_M_why_2, e_M_why_3, e_M_why_4, e_M_why_5, e_M_why_6, e_M_why_7, e_M_why_8, e_M_why_9, s_M_in, lit, nad, nml, bd_s, ct_s, ct_n, a11, a01, aB2, bitA, nlt, nle, neq, dlT, dlF, deT, deF, dqT, dqF, nN, inb, nsb, ndv, nrm, if_true, if_false, ite_true, ite_false, true_and, and_true, and_self, and_false, false_and, or_true, true_or, or_false, false_or, or_self, ↓reduceIte, eq_self, Nat.reduceAdd, Nat.reduceMul, Nat.reduceSub, Nat.reduceDiv, Nat.reduceMod, Nat.zero_add, Nat.mul_zero, not_true_eq_false, not_false_eq_true, up_T, up_F, wr_T, wr_F, ngE, ngE', ngL, ngL', ngQ, ngQ', this, fvM, fvC, hq]
    | some b =>
      rw [e] at this
      have hb := tc_lt e
      simp (disch := omega) only [n_M_why, e_M_why_0, e_M_why_1, e_M_why_2, e_M_why_3, e_M_why_4, e_M_why_5, e_M_why_6, e_M_why_7, e_M_why_8, e_M_why_9, s_M_in, lit, nad, nml, bd_s, ct_s, ct_n, a11, a01, aB2, bitA, nlt, nle, neq, dlT, dlF, deT, deF, dqT, dqF, nN, inb, nsb, ndv, nrm, if_true, if_false, ite_true, ite_false, true_and, and_true, and_self, and_false, false_and, or_true, true_or, or_false, false_or, or_self, ↓reduceIte, eq_self, Nat.reduceAdd, Nat.reduceMul, Nat.reduceSub, Nat.reduceDiv, Nat.reduceMod, Nat.zero_add, Nat.mul_zero, not_true_eq_false, not_false_eq_true, up_T, up_F, wr_T, wr_F, ngE, ngE', ngL, ngL', ngQ, ngQ', this, fvM, fvC]
theorem Ok_of (d : Nat) (t w : Int32) : Ok (d + 200) q_H_of q_M_of [.inl t, .inl w] := by
  rcases ix t with ht | ⟨j, hj, ht⟩
  · refine call_id (fun _ => -nI 1000000001) (fun A I _ _ _ _ => ?_) (fun A I hR _ _ _ => ?_)
    · simp (disch := omega) only [n_H_of, e_H_of_0, e_H_of_1, e_H_of_2, s_H_within, lit, nad, nml, bd_s, ct_s, ct_n, a11, a01, aB2, bitA, nlt, nle, neq, dlT, dlF, deT, deF, dqT, dqF, nN, inb, nsb, ndv, nrm, if_true, if_false, ite_true, ite_false, true_and, and_true, and_self, and_false, false_and, or_true, true_or, or_false, false_or, or_self, ↓reduceIte, eq_self, Nat.reduceAdd, Nat.reduceMul, Nat.reduceSub, Nat.reduceDiv, Nat.reduceMod, Nat.zero_add, Nat.mul_zero, not_true_eq_false, not_false_eq_true, up_T, up_F, wr_T, wr_F, ngE, ngE', ngL, ngL', ngQ, ngQ', ngx ht]
    · simp (disch := omega) only [n_M_of, e_M_of_0, e_M_of_1, e_M_of_2, e_M_of_3, e_M_of_4, e_M_of_5, e_M_of_6, e_M_of_7, e_M_of_8, s_M_in, lit, nad, nml, bd_s, ct_s, ct_n, a11, a01, aB2, bitA, nlt, nle, neq, dlT, dlF, deT, deF, dqT, dqF, nN, inb, nsb, ndv, nrm, if_true, if_false, ite_true, ite_false, true_and, and_true, and_self, and_false, false_and, or_true, true_or, or_false, false_or, or_self, ↓reduceIte, eq_self, Nat.reduceAdd, Nat.reduceMul, Nat.reduceSub, Nat.reduceDiv, Nat.reduceMod, Nat.zero_add, Nat.mul_zero, not_true_eq_false, not_false_eq_true, up_T, up_F, wr_T, wr_F, ngE, ngE', ngL, ngL', ngQ, ngQ', ngx ht]
  subst ht
  by_cases h : nI 0 ≤ w ∧ w ≤ nI 3
  · obtain ⟨k, -, k1, k2⟩ := wof h (by decide) (by decide)
    subst k2
    refine call_id (fun A => if j < A 0 0 2 then nI (A 3 j k) else -nI 1000000001) (fun A I hC F g _ => ?_) (fun A I hR g _ _ => ?_)
    · have hX := g.1.2.1
      have hn : I 3 0 5 = nI (A 0 0 2) := hC.1.2.1
      have hw := wl (n := A 0 0 2) hj (by omega)
      by_cases e : j < A 0 0 2
      · simp only [if_pos e]
        obtain ⟨t1, t2, t3, t4, t5, t6⟩ := hC.2.2.2.2.1 j e
        rcases (show k = 0 ∨ k = 1 ∨ k = 2 ∨ k = 3 by omega) with q | q | q | q <;> subst q <;> simp (disch := omega) only [n_H_of, e_H_of_0, e_H_of_1, e_H_of_2, e_H_of_3, e_H_of_4, e_H_of_5, e_H_of_6, e_H_of_7, e_H_of_8, s_H_within, lit, nad, nml, bd_s, ct_s, ct_n, a11, a01, aB2, bitA, nlt, nle, neq, dlT, dlF, deT, deF, dqT, dqF, nN, inb, nsb, ndv, nrm, if_true, if_false, ite_true, ite_false, true_and, and_true, and_self, and_false, false_and, or_true, true_or, or_false, false_or, or_self, ↓reduceIte, eq_self, Nat.reduceAdd, Nat.reduceMul, Nat.reduceSub, Nat.reduceDiv, Nat.reduceMod, Nat.zero_add, Nat.mul_zero, not_true_eq_false, not_false_eq_true, up_T, up_F, wr_T, wr_F, ngE, ngE', ngL, ngL', ngQ, ngQ', hn, hw, t1, t2, t3, t4]
      · simp only [if_neg e]
        simp (disch := omega) only [n_H_of, e_H_of_0, e_H_of_1, e_H_of_2, s_H_within, lit, nad, nml, bd_s, ct_s, ct_n, a11, a01, aB2, bitA, nlt, nle, neq, dlT, dlF, deT, deF, dqT, dqF, nN, inb, nsb, ndv, nrm, if_true, if_false, ite_true, ite_false, true_and, and_true, and_self, and_false, false_and, or_true, true_or, or_false, false_or, or_self, ↓reduceIte, eq_self, Nat.reduceAdd, Nat.reduceMul, Nat.reduceSub, Nat.reduceDiv, Nat.reduceMod, Nat.zero_add, Nat.mul_zero, not_true_eq_false, not_false_eq_true, up_T, up_F, wr_T, wr_F, ngE, ngE', ngL, ngL', ngQ, ngQ', hn, hw]
    · have hX := g.1.2.1
      have hn : I 47 0 2 = nI (A 0 0 2) := hR.1 2 (by decide)
      have hw := wl (n := A 0 0 2) hj (by omega)
      by_cases e : j < A 0 0 2
      · simp only [if_pos e]
        obtain ⟨t1, t2, t3, t4, t5⟩ := hR.2.2.2.1 j e
        obtain ⟨g1, g2, g3, g4, g5, -⟩ := txG g e
        have hd := tdv (a := A 3 j 0) g5
        rcases (show k = 0 ∨ k = 1 ∨ k = 2 ∨ k = 3 by omega) with q | q | q | q <;> subst q <;> simp (disch := omega) only [n_M_of, e_M_of_0, e_M_of_1, e_M_of_2, e_M_of_3, e_M_of_4, e_M_of_5, e_M_of_6, e_M_of_7, e_M_of_8, s_M_in, lit, nad, nml, bd_s, ct_s, ct_n, a11, a01, aB2, bitA, nlt, nle, neq, dlT, dlF, deT, deF, dqT, dqF, nN, inb, nsb, ndv, nrm, if_true, if_false, ite_true, ite_false, true_and, and_true, and_self, and_false, false_and, or_true, true_or, or_false, false_or, or_self, ↓reduceIte, eq_self, Nat.reduceAdd, Nat.reduceMul, Nat.reduceSub, Nat.reduceDiv, Nat.reduceMod, Nat.zero_add, Nat.mul_zero, not_true_eq_false, not_false_eq_true, up_T, up_F, wr_T, wr_F, ngE, ngE', ngL, ngL', ngQ, ngQ', hn, hw, t1, t2, t3, t4, hd, Nat.add_zero]
      · simp only [if_neg e]
        simp (disch := omega) only [n_M_of, e_M_of_0, e_M_of_1, e_M_of_2, e_M_of_3, e_M_of_4, e_M_of_5, e_M_of_6, e_M_of_7, e_M_of_8, s_M_in, lit, nad, nml, bd_s, ct_s, ct_n, a11, a01, aB2, bitA, nlt, nle, neq, dlT, dlF, deT, deF, dqT, dqF, nN, inb, nsb, ndv, nrm, if_true, if_false, ite_true, ite_false, true_and, and_true, and_self, and_false, false_and, or_true, true_or, or_false, false_or, or_self, ↓reduceIte, eq_self, Nat.reduceAdd, Nat.reduceMul, Nat.reduceSub, Nat.reduceDiv, Nat.reduceMod, Nat.zero_add, Nat.mul_zero, not_true_eq_false, not_false_eq_true, up_T, up_F, wr_T, wr_F, ngE, ngE', ngL, ngL', ngQ, ngQ', hn, hw]
  · have hk : ∀ k, k ≤ 3 → (w = nI k) = False := fun k hk => eq_false (fun q => h (by rw [q, nle (by decide) (by omega), nle (by omega) (by decide)]; omega))
    refine call_id (fun _ => -nI 1000000001) (fun A I hC _ g _ => ?_) (fun A I hR g _ _ => ?_)
    · have hX := g.1.2.1
      have hn : I 3 0 5 = nI (A 0 0 2) := hC.1.2.1
      have hw := wl (n := A 0 0 2) hj (by omega)
      by_cases e : j < A 0 0 2 <;> simp (disch := omega) only [n_H_of, e_H_of_0, e_H_of_1, e_H_of_2, e_H_of_3, e_H_of_4, e_H_of_5, e_H_of_6, e_H_of_7, e_H_of_8, s_H_within, lit, nad, nml, bd_s, ct_s, ct_n, a11, a01, aB2, bitA, nlt, nle, neq, dlT, dlF, deT, deF, dqT, dqF, nN, inb, nsb, ndv, nrm, if_true, if_false, ite_true, ite_false, true_and, and_true, and_self, and_false, false_and, or_true, true_or, or_false, false_or, or_self, ↓reduceIte, eq_self, Nat.reduceAdd, Nat.reduceMul, Nat.reduceSub, Nat.reduceDiv, Nat.reduceMod, Nat.zero_add, Nat.mul_zero, not_true_eq_false, not_false_eq_true, up_T, up_F, wr_T, wr_F, ngE, ngE', ngL, ngL', ngQ, ngQ', hn, hw, hk]
    · have hX := g.1.2.1
      have hn : I 47 0 2 = nI (A 0 0 2) := hR.1 2 (by decide)
      have hw := wl (n := A 0 0 2) hj (by omega)
      by_cases e : j < A 0 0 2 <;> simp (disch := omega) only [n_M_of, e_M_of_0, e_M_of_1, e_M_of_2, e_M_of_3, e_M_of_4, e_M_of_5, e_M_of_6, e_M_of_7, e_M_of_8, s_M_in, lit, nad, nml, bd_s, ct_s, ct_n, a11, a01, aB2, bitA, nlt, nle, neq, dlT, dlF, deT, deF, dqT, dqF, nN, inb, nsb, ndv, nrm, if_true, if_false, ite_true, ite_false, true_and, and_true, and_self, and_false, false_and, or_true, true_or, or_false, false_or, or_self, ↓reduceIte, eq_self, Nat.reduceAdd, Nat.reduceMul, Nat.reduceSub, Nat.reduceDiv, Nat.reduceMod, Nat.zero_add, Nat.mul_zero, not_true_eq_false, not_false_eq_true, up_T, up_F, wr_T, wr_F, ngE, ngE', ngL, ngL', ngQ, ngQ', hn, hw, h]
