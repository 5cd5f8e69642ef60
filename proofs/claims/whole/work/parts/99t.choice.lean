/-! choice, the call. -/
noncomputable def ansC (A : mm_A) (y c j : Nat) : Int32 := match ccA A y c with
  | none => 0
  | some (w, p, q) => if j = 0 then zI w else if j = 1 then nI p else nI (q (j - 2))
theorem cs_some (A : mm_A) (y c : Nat) : ∃ w p q, ccA A y c = some (w, p, q) := by
  have h := cf_n (O := cO A) (W := cW A y) (P := cP A) (c := c) (fun i => cO_0 A i) (A 0 0 4) 0 0 0 (fun _ => 0) none (Nat.zero_le _)
  cases q : ccA A y c with
  | none => exact absurd q h
  | some v => exact ⟨v.1, v.2.1, v.2.2, rfl⟩
theorem s_chDig (d y c j m cc : Nat) (K : mm_I) (hm : m ≤ 6) (hj : j < m) (hc : cc ≤ 15625) : Rn d q_M_choice 14 [some (.inr (12, 0)), some (.inl (nI y)), some (.inl (nI c)), some (.inl (nI (j + 2))), some (.inl (nI cc)), some (.inl (nI (m - 1)))] [] K = some (some (.inl (nI (dg2 m 0 (fun _ => 0) cc j))), (sh0, K)) := by
  have key := lpX (n := m - 1 - j) (σ := Unit) (fun i _ => Rn d q_M_choice 14 [some (.inr (12, 0)), some (.inl (nI y)), some (.inl (nI c)), some (.inl (nI (j + 2))), some (.inl (nI (cc / 5 ^ i))), some (.inl (nI (m - 1 - i)))] [] K) (fun _ _ => True) (fun q => q = some (some (.inl (nI (dg2 m 0 (fun _ => 0) cc j))), (sh0, K))) (fun i _ hi _ => Or.inr ⟨(), trivial, ?_⟩) (fun _ _ => ?_) 0 () (Nat.zero_le _) trivial
  · rw [Nat.pow_zero, Nat.div_one, Nat.sub_zero] at key
    exact key
  · have b1 : cc / 5 ^ i ≤ cc := Nat.div_le_self _ _
    have e1 : nI (cc / 5 ^ i) / (5 : Int32) = nI (cc / 5 ^ i / 5) := ndv (b := 5) (by omega) (by omega) (by omega)
    have e2 : nI (m - 1 - i) + (-1 : Int32) = nI (m - 1 - (i + 1)) := by
      rw [show m - 1 - (i + 1) = m - 1 - i - 1 by omega]
      exact nmn (b := 1) (by omega)
    have e3 : nI (j + 2) - (2 : Int32) = nI j := nsb (a := j + 2) (b := 2) (by omega)
    rw [e_M_choice_14, e3, if_pos (by rw [nlt (by omega) (by omega)]; omega), e_M_choice_15, if_neg (by decide), e1, e2, Nat.div_div_eq_div_mul, ← Nat.pow_succ]
  · have b1 : cc / 5 ^ (m - 1 - j) ≤ cc := Nat.div_le_self _ _
    have e3 : nI (j + 2) - (2 : Int32) = nI j := nsb (a := j + 2) (b := 2) (by omega)
    have dg : dg2 m 0 (fun _ => 0) cc j = cc / 5 ^ (m - 1 - j) % 5 := by
      unfold dg2
      rw [if_pos (by omega)]
    rw [dg]
    generalize cc / 5 ^ (m - 1 - j) = a at b1 ⊢
    have e1 : nI a / (5 : Int32) = nI (a / 5) := ndv (b := 5) (by omega) (by omega) (by omega)
    have e2 : nI a - nI (a / 5) * (5 : Int32) = nI (a % 5) := by
      rw [show (5 : Int32) = nI 5 from rfl, nml, nsb (by omega), show a - a / 5 * 5 = a % 5 by omega]
    rw [e_M_choice_14, e3, if_neg (by rw [nlt (by omega) (by omega)]; omega), e_M_choice_16, if_neg (by decide), e1, e2]
theorem Ok_choice (d : Nat) (n c t : Int32) : Ok (d + 200) q_H_choice q_M_choice [.inl n, .inl c, .inl t] := by
  by_cases h1 : nI 1 ≤ n ∧ n ≤ nI 30
  rotate_left
  · refine call_id (fun _ => -nI 1000000001) (fun A I hC _ g _ => ?_) (fun A I hR g _ _ => ?_)
    · simp (disch := omega) only [n_H_choice, e_H_choice_0, e_H_choice_1, e_H_choice_2, e_H_choice_3, e_H_choice_4, s_H_within, lit, nad, nml, bd_s, ct_s, ct_n, a11, a01, aB2, bitA, nlt, nle, neq, dlT, dlF, deT, deF, dqT, dqF, nN, inb, nsb, ndv, nrm, if_true, if_false, ite_true, ite_false, true_and, and_true, and_self, and_false, false_and, or_true, true_or, or_false, false_or, or_self, ↓reduceIte, eq_self, Nat.reduceAdd, Nat.reduceMul, Nat.reduceSub, Nat.reduceDiv, Nat.reduceMod, Nat.zero_add, Nat.mul_zero, not_true_eq_false, not_false_eq_true, up_T, up_F, wr_T, wr_F, ngE, ngE', ngL, ngL', ngQ, ngQ', h1]
    · simp (disch := omega) only [n_M_choice, e_M_choice_0, e_M_choice_1, e_M_choice_2, e_M_choice_3, e_M_choice_4, e_M_choice_5, e_M_choice_6, s_M_in, lit, nad, nml, bd_s, ct_s, ct_n, a11, a01, aB2, bitA, nlt, nle, neq, dlT, dlF, deT, deF, dqT, dqF, nN, inb, nsb, ndv, nrm, if_true, if_false, ite_true, ite_false, true_and, and_true, and_self, and_false, false_and, or_true, true_or, or_false, false_or, or_self, ↓reduceIte, eq_self, Nat.reduceAdd, Nat.reduceMul, Nat.reduceSub, Nat.reduceDiv, Nat.reduceMod, Nat.zero_add, Nat.mul_zero, not_true_eq_false, not_false_eq_true, up_T, up_F, wr_T, wr_F, ngE, ngE', ngL, ngL', ngQ, ngQ', h1]
  by_cases h2 : nI 0 ≤ c ∧ c ≤ nI 999999
  rotate_left
  · refine call_id (fun _ => -nI 1000000001) (fun A I hC _ g _ => ?_) (fun A I hR g _ _ => ?_)
    · simp (disch := omega) only [n_H_choice, e_H_choice_0, e_H_choice_1, e_H_choice_2, e_H_choice_3, e_H_choice_4, s_H_within, lit, nad, nml, bd_s, ct_s, ct_n, a11, a01, aB2, bitA, nlt, nle, neq, dlT, dlF, deT, deF, dqT, dqF, nN, inb, nsb, ndv, nrm, if_true, if_false, ite_true, ite_false, true_and, and_true, and_self, and_false, false_and, or_true, true_or, or_false, false_or, or_self, ↓reduceIte, eq_self, Nat.reduceAdd, Nat.reduceMul, Nat.reduceSub, Nat.reduceDiv, Nat.reduceMod, Nat.zero_add, Nat.mul_zero, not_true_eq_false, not_false_eq_true, up_T, up_F, wr_T, wr_F, ngE, ngE', ngL, ngL', ngQ, ngQ', h1, h2]
    · simp (disch := omega) only [n_M_choice, e_M_choice_0, e_M_choice_1, e_M_choice_2, e_M_choice_3, e_M_choice_4, e_M_choice_5, e_M_choice_6, s_M_in, lit, nad, nml, bd_s, ct_s, ct_n, a11, a01, aB2, bitA, nlt, nle, neq, dlT, dlF, deT, deF, dqT, dqF, nN, inb, nsb, ndv, nrm, if_true, if_false, ite_true, ite_false, true_and, and_true, and_self, and_false, false_and, or_true, true_or, or_false, false_or, or_self, ↓reduceIte, eq_self, Nat.reduceAdd, Nat.reduceMul, Nat.reduceSub, Nat.reduceDiv, Nat.reduceMod, Nat.zero_add, Nat.mul_zero, not_true_eq_false, not_false_eq_true, up_T, up_F, wr_T, wr_F, ngE, ngE', ngL, ngL', ngQ, ngQ', h1, h2]
  obtain ⟨y', y0, y1, y2⟩ := wof h1 (by decide) (by decide)
  subst y2
  obtain ⟨c', c0, c1, c2⟩ := wof h2 (by decide) (by decide)
  subst c2
  have H5 : ∀ I, Sn (d + 200) q_H_choice [.inr (11, 0), .inl (nI y'), .inl (nI c'), .inl t] I = Rn (d + 199) q_H_choice 5 [some (.inr (11, 0)), some (.inl (nI y')), some (.inl (nI c')), some (.inl t)] [] I := fun I => by
    simp (disch := omega) only [n_H_choice, e_H_choice_0, e_H_choice_1, e_H_choice_2, e_H_choice_3, s_H_within, lit, nad, nml, bd_s, ct_s, ct_n, a11, a01, aB2, bitA, nlt, nle, neq, dlT, dlF, deT, deF, dqT, dqF, nN, inb, nsb, ndv, nrm, if_true, if_false, ite_true, ite_false, true_and, and_true, and_self, and_false, false_and, or_true, true_or, or_false, false_or, or_self, ↓reduceIte, eq_self, Nat.reduceAdd, Nat.reduceMul, Nat.reduceSub, Nat.reduceDiv, Nat.reduceMod, Nat.zero_add, Nat.mul_zero, not_true_eq_false, not_false_eq_true, up_T, up_F, wr_T, wr_F, ngE, ngE', ngL, ngL', ngQ, ngQ']
  have M4 : ∀ I, Sn (d + 200) q_M_choice [.inr (12, 0), .inl (nI y'), .inl (nI c'), .inl t] I = Rn (d + 199) q_M_choice 4 [some (.inr (12, 0)), some (.inl (nI y')), some (.inl (nI c')), some (.inl t), none, none] [] I := fun I => by
    simp (disch := omega) only [n_M_choice, e_M_choice_0, e_M_choice_1, e_M_choice_2, e_M_choice_3, s_M_in, lit, nad, nml, bd_s, ct_s, ct_n, a11, a01, aB2, bitA, nlt, nle, neq, dlT, dlF, deT, deF, dqT, dqF, nN, inb, nsb, ndv, nrm, if_true, if_false, ite_true, ite_false, true_and, and_true, and_self, and_false, false_and, or_true, true_or, or_false, false_or, or_self, ↓reduceIte, eq_self, Nat.reduceAdd, Nat.reduceMul, Nat.reduceSub, Nat.reduceDiv, Nat.reduceMod, Nat.zero_add, Nat.mul_zero, not_true_eq_false, not_false_eq_true, up_T, up_F, wr_T, wr_F, ngE, ngE', ngL, ngL', ngQ, ngQ']
  rcases ix t with ht | ⟨j, hj, ht⟩
  · have hz : ∀ b, ¬ (nI 0 ≤ t ∧ t ≤ b) := fun b q => absurd ht (Int32.not_lt.mpr q.1)
    refine call_id (fun _ => -nI 1000000001) (fun A I hC _ g _ => ?_) (fun A I hR g _ _ => ?_)
    · rw [H5]
      simp (disch := omega) only [e_H_choice_5, e_H_choice_6, e_H_choice_7, s_H_within, lit, nad, nml, bd_s, ct_s, ct_n, a11, a01, aB2, bitA, nlt, nle, neq, dlT, dlF, deT, deF, dqT, dqF, nN, inb, nsb, ndv, nrm, if_true, if_false, ite_true, ite_false, true_and, and_true, and_self, and_false, false_and, or_true, true_or, or_false, false_or, or_self, ↓reduceIte, eq_self, Nat.reduceAdd, Nat.reduceMul, Nat.reduceSub, Nat.reduceDiv, Nat.reduceMod, Nat.zero_add, Nat.mul_zero, not_true_eq_false, not_false_eq_true, up_T, up_F, wr_T, wr_F, ngE, ngE', ngL, ngL', ngQ, ngQ', hz]
    · rw [M4]
      simp (disch := omega) only [e_M_choice_4, e_M_choice_5, e_M_choice_6, s_M_in, lit, nad, nml, bd_s, ct_s, ct_n, a11, a01, aB2, bitA, nlt, nle, neq, dlT, dlF, deT, deF, dqT, dqF, nN, inb, nsb, ndv, nrm, if_true, if_false, ite_true, ite_false, true_and, and_true, and_self, and_false, false_and, or_true, true_or, or_false, false_or, or_self, ↓reduceIte, eq_self, Nat.reduceAdd, Nat.reduceMul, Nat.reduceSub, Nat.reduceDiv, Nat.reduceMod, Nat.zero_add, Nat.mul_zero, not_true_eq_false, not_false_eq_true, up_T, up_F, wr_T, wr_F, ngE, ngE', ngL, ngL', ngQ, ngQ', hz]
  subst ht
  refine call_hill (fun A => if j ≤ 1 + A 0 0 4 then ansC A y' c' j else -nI 1000000001) (fun A => A) (fun A I hC F g hy => ?_) (fun A I hR g hy h8 => ?_) (fun A g h => ⟨g, h, rfl⟩)
  · have h6 : A 0 0 4 ≤ 6 := g.2.1 2 (by decide)
    have hm : I 7 2 3 = nI (A 0 0 4) := c0_mn hC (t := 2) (by decide)
    by_cases e : j ≤ 1 + A 0 0 4
    rotate_left
    · simp only [if_neg e]
      refine ⟨I, ?_, hC, F, fr_rf _ _⟩
      rw [H5]
      simp (disch := omega) only [e_H_choice_5, e_H_choice_6, e_H_choice_7, s_H_within, lit, nad, nml, bd_s, ct_s, ct_n, a11, a01, aB2, bitA, nlt, nle, neq, dlT, dlF, deT, deF, dqT, dqF, nN, inb, nsb, ndv, nrm, if_true, if_false, ite_true, ite_false, true_and, and_true, and_self, and_false, false_and, or_true, true_or, or_false, false_or, or_self, ↓reduceIte, eq_self, Nat.reduceAdd, Nat.reduceMul, Nat.reduceSub, Nat.reduceDiv, Nat.reduceMod, Nat.zero_add, Nat.mul_zero, not_true_eq_false, not_false_eq_true, up_T, up_F, wr_T, wr_F, ngE, ngE', ngL, ngL', ngQ, ngQ', hm]
    · simp only [if_pos e]
      obtain ⟨I1, a1, a2, a3, a4, a5⟩ := s_offerAll (d + 192) y' c' A I hC F g y1
      obtain ⟨I2, b1, b2', b3⟩ := s_chFind (d + 190) (A 0 0 4) c' (cO A) (cW A y') (cP A) I1 h6 c1 (fun i => cO_0 A i) (fun i => cW_0 A y' i) (fun i k => cW_b g y' i k) (fun i k => cP_b g i k) a5
      obtain ⟨w, p, q, hs⟩ := cs_some A y' c'
      have b3' : BMt (A 0 0 4) (ccA A y' c') I2 := b3
      rw [hs] at b3'
      obtain ⟨l1, l2, -, -, -, l3⟩ := b3'
      refine ⟨I2, ?_, RepC_o a3 g b2' (by decide), Fix_e a4 b2' (by decide), fr_tr a2 (fr_eqo b2' (fun k q i => by simp at q; unfold dC; omega))⟩
      unfold ansC
      rw [hs, H5]
      dsimp only
      have st : Rn (d + 199) q_H_choice 5 [some (.inr (11, 0)), some (.inl (nI y')), some (.inl (nI c')), some (.inl (nI j))] [] I = Rn (d + 199) q_H_choice 10 [some (.inr (11, 0)), some (.inl (nI y')), some (.inl (nI c')), some (.inl (nI j))] [] I2 := by
        simp (disch := omega) only [e_H_choice_5, e_H_choice_6, e_H_choice_8, e_H_choice_9, s_H_within, lit, nad, nml, bd_s, ct_s, ct_n, a11, a01, aB2, bitA, nlt, nle, neq, dlT, dlF, deT, deF, dqT, dqF, nN, inb, nsb, ndv, nrm, if_true, if_false, ite_true, ite_false, true_and, and_true, and_self, and_false, false_and, or_true, true_or, or_false, false_or, or_self, ↓reduceIte, eq_self, Nat.reduceAdd, Nat.reduceMul, Nat.reduceSub, Nat.reduceDiv, Nat.reduceMod, Nat.zero_add, Nat.mul_zero, not_true_eq_false, not_false_eq_true, up_T, up_F, wr_T, wr_F, ngE, ngE', ngL, ngL', ngQ, ngQ', hm, a1, b1]
      rw [st, e_H_choice_10]
      by_cases z0 : j = 0
      · subst z0
        rw [if_pos (show nI 0 = 0 from rfl), e_H_choice_11, l1, if_pos rfl]
      · rw [if_neg (by rw [show (0 : Int32) = nI 0 from rfl, neq (by omega) (by omega)]; exact z0), e_H_choice_12, if_neg z0]
        by_cases z1 : j = 1
        · subst z1
          rw [if_pos (show nI 1 = 1 from rfl), e_H_choice_13, l2, if_pos rfl]
        · have e3 : nI j - (2 : Int32) = nI (j - 2) := nsb (a := j) (b := 2) (by omega)
          rw [if_neg (by rw [show (1 : Int32) = nI 1 from rfl, neq (by omega) (by omega)]; exact z1), if_neg z1, e_H_choice_14, e3, if_pos (by rw [nI_toInt (by omega)]; omega), nN (by omega), l3 _ (by omega)]
  · have h6 : A 0 0 4 ≤ 6 := g.2.1 2 (by decide)
    have hm : I 47 0 4 = nI (A 0 0 4) := hR.1 4 (by decide)
    by_cases e : j ≤ 1 + A 0 0 4
    rotate_left
    · simp only [if_neg e]
      refine ⟨I, ?_, hR, fr_rf _ _, k12_rf _⟩
      rw [M4]
      simp (disch := omega) only [e_M_choice_4, e_M_choice_5, e_M_choice_6, s_M_in, lit, nad, nml, bd_s, ct_s, ct_n, a11, a01, aB2, bitA, nlt, nle, neq, dlT, dlF, deT, deF, dqT, dqF, nN, inb, nsb, ndv, nrm, if_true, if_false, ite_true, ite_false, true_and, and_true, and_self, and_false, false_and, or_true, true_or, or_false, false_or, or_self, ↓reduceIte, eq_self, Nat.reduceAdd, Nat.reduceMul, Nat.reduceSub, Nat.reduceDiv, Nat.reduceMod, Nat.zero_add, Nat.mul_zero, not_true_eq_false, not_false_eq_true, up_T, up_F, wr_T, wr_F, ngE, ngE', ngL, ngL', ngQ, ngQ', hm]
    · simp only [if_pos e]
      obtain ⟨I1, a1, a2, a3, a4⟩ := s_M_findChoice (d + 192) y' c' A I hR g y1 c1 h8
      have hR1 : RepR 0 A I1 := RepR_o hR (by rw [a2 47 (by decide)])
      have hm1 : I1 47 0 4 = nI (A 0 0 4) := hR1.1 4 (by decide)
      obtain ⟨w, p, q, hs⟩ := cs_some A y' c'
      rw [hs] at a4
      obtain ⟨cc, k0, k1, k2, k3, k4, -, -, -⟩ := a4
      refine ⟨I1, ?_, hR1, fr_eqo a2 (fun k q i => by simp at q; unfold dM'; omega), ⟨a3 3 (by decide) (by decide) (by decide) (by decide), a3 8 (by decide) (by decide) (by decide) (by decide), a3 11 (by decide) (by decide) (by decide) (by decide), a3 47 (by decide) (by decide) (by decide) (by decide)⟩⟩
      unfold ansC
      rw [hs, M4]
      dsimp only
      have st : Rn (d + 199) q_M_choice 4 [some (.inr (12, 0)), some (.inl (nI y')), some (.inl (nI c')), some (.inl (nI j)), none, none] [] I = Rn (d + 199) q_M_choice 8 [some (.inr (12, 0)), some (.inl (nI y')), some (.inl (nI c')), some (.inl (nI j)), none, none] [] I1 := by
        simp (disch := omega) only [e_M_choice_4, e_M_choice_5, e_M_choice_7, s_M_in, lit, nad, nml, bd_s, ct_s, ct_n, a11, a01, aB2, bitA, nlt, nle, neq, dlT, dlF, deT, deF, dqT, dqF, nN, inb, nsb, ndv, nrm, if_true, if_false, ite_true, ite_false, true_and, and_true, and_self, and_false, false_and, or_true, true_or, or_false, false_or, or_self, ↓reduceIte, eq_self, Nat.reduceAdd, Nat.reduceMul, Nat.reduceSub, Nat.reduceDiv, Nat.reduceMod, Nat.zero_add, Nat.mul_zero, not_true_eq_false, not_false_eq_true, up_T, up_F, wr_T, wr_F, ngE, ngE', ngL, ngL', ngQ, ngQ', hm, a1]
      rw [st, e_M_choice_8]
      by_cases z0 : j = 0
      · subst z0
        rw [if_pos (by decide), e_M_choice_9, if_pos (show nI 0 = 0 from rfl), e_M_choice_10, e_M_choice_12, k3, if_pos rfl]
      · by_cases z1 : j = 1
        · subst z1
          rw [if_pos (by decide), e_M_choice_9, if_neg (by decide), e_M_choice_11, e_M_choice_12, k4, if_neg (by decide), if_pos rfl]
        · have sd := s_chDig (d + 199) y' c' (j - 2) (A 0 0 4) cc I1 h6 (by omega) k0
          rw [show j - 2 + 2 = j by omega] at sd
          rw [if_neg (by rw [show (2 : Int32) = nI 2 from rfl, nlt (by omega) (by omega)]; omega), if_neg z0, if_neg z1, e_M_choice_13, if_pos (by decide), show (4 : Int32).toInt.toNat = 4 from rfl, hm1, k1, show nI (A 0 0 4) - (1 : Int32) = nI (A 0 0 4 - 1) from nsb (a := A 0 0 4) (b := 1) (by omega), k2]
          exact sd
