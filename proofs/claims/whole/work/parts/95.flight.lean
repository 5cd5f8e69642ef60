/-! flight. -/
theorem s_M_flT (d : Nat) (x1 : Int32) (A : mm_A) (I : mm_I) (hR : RepR 0 A I) (g : Good A) : ∃ I', Rn (d + 1) q_M_flight 4 [some (.inr (12, 0)), some (.inl x1), some (.inl (nI 0))] [] I = Rn (d + 1) q_M_flight 7 [some (.inr (12, 0)), some (.inl x1), some (.inl (nI (flA (wL A) (A 0 0 6))))] [] I' ∧ eqo [60, 61] I I' ∧ ∀ i, i < A 0 0 6 → I' 60 0 i = nI (asg (wL A) (flA (wL A) (A 0 0 6)) (A 0 0 6) 0 (fun _ => 0) i) := by
  have hm10 : A 0 0 6 ≤ 10 := g.2.1 4 (by decide)
  obtain ⟨f1, f2, f3⟩ := flA_of (m := A 0 0 6) (wL_b g)
  refine lpX (n := flA (wL A) (A 0 0 6)) (σ := mm_I) (fun L J => Rn (d + 1) q_M_flight 4 [some (.inr (12, 0)), some (.inl x1), some (.inl (nI L))] [] J) (fun _ J => eqo [60, 61] I J) (fun q => ∃ I', q = Rn (d + 1) q_M_flight 7 [some (.inr (12, 0)), some (.inl x1), some (.inl (nI (flA (wL A) (A 0 0 6))))] [] I' ∧ eqo [60, 61] I I' ∧ ∀ i, i < A 0 0 6 → I' 60 0 i = nI (asg (wL A) (flA (wL A) (A 0 0 6)) (A 0 0 6) 0 (fun _ => 0) i)) ?_ ?_ 0 I (Nat.zero_le _) (eqo_rf _ _)
  · intro L J hL hJ
    right
    obtain ⟨J', p1, p2, p3⟩ := s_M_carries d L A J (RepR_o hR (by rw [hJ 47 (by decide)])) g (by omega)
    rw [f3 L hL] at p1
    refine ⟨J', eqo_tr hJ p2, ?_⟩
    simp (disch := omega) only [e_M_flight_4 (x2 := nI L), e_M_flight_5, e_M_flight_6, lit, nad, nml, bd_s, ct_s, ct_n, a11, a01, aB2, bitA, nlt, nle, neq, dlT, dlF, deT, deF, dqT, dqF, nN, inb, nsb, ndv, nrm, if_true, if_false, ite_true, ite_false, true_and, and_true, and_self, and_false, false_and, or_true, true_or, or_false, false_or, or_self, ↓reduceIte, eq_self, Nat.reduceAdd, Nat.reduceMul, Nat.reduceSub, Nat.reduceDiv, Nat.reduceMod, Nat.zero_add, Nat.mul_zero, not_true_eq_false, not_false_eq_true, up_T, up_F, wr_T, wr_F, ngE, ngE', ngL, ngL', ngQ, ngQ', p1, show b2 false = 0 from rfl]
  · intro J hJ
    obtain ⟨J', p1, p2, p3⟩ := s_M_carries d (flA (wL A) (A 0 0 6)) A J (RepR_o hR (by rw [hJ 47 (by decide)])) g (by omega)
    have p3 := p3 f2
    rw [f2] at p1
    refine ⟨J', ?_, eqo_tr hJ p2, p3⟩
    simp (disch := omega) only [e_M_flight_4, e_M_flight_5, lit, nad, nml, bd_s, ct_s, ct_n, a11, a01, aB2, bitA, nlt, nle, neq, dlT, dlF, deT, deF, dqT, dqF, nN, inb, nsb, ndv, nrm, if_true, if_false, ite_true, ite_false, true_and, and_true, and_self, and_false, false_and, or_true, true_or, or_false, false_or, or_self, ↓reduceIte, eq_self, Nat.reduceAdd, Nat.reduceMul, Nat.reduceSub, Nat.reduceDiv, Nat.reduceMod, Nat.zero_add, Nat.mul_zero, not_true_eq_false, not_false_eq_true, up_T, up_F, wr_T, wr_F, ngE, ngE', ngL, ngL', ngQ, ngQ', p1, show b2 true = 1 from rfl]
theorem s_inL (d m : Nat) (x : Int32) (I : mm_I) (hm : m ≤ 10) (b : Bool) (h : (x = -nI 1 ∨ ∃ j, j < m ∧ x = nI j) ↔ b = true) : Sn (d + 1) q_M_in [.inl x, .inl (-1), .inl (nI m - 1)] I = some (some (.inl (nI (b2 b))), (sh0, I)) := by
  have e : (-1 ≤ x ∧ x ≤ nI m - 1) ↔ b = true := by
    rw [← h]
    have e1 : (nI m - 1).toInt = (m : Int) - 1 := by
      by_cases z : m = 0
      · rw [z]; rfl
      · have := nsb (show 1 ≤ m by omega)
        have e2 : nI m - 1 = nI (m - 1) := this
        rw [e2, nI_toInt (by omega)]
        omega
    have e3 : (-1 : Int32).toInt = -1 := rfl
    rw [Int32.le_iff_toInt_le, Int32.le_iff_toInt_le, e1, e3]
    constructor
    · intro q
      by_cases z : x.toInt = -1
      · left
        exact Int32.toInt_inj.mp z
      · right
        refine ⟨x.toInt.toNat, by omega, Int32.toInt_inj.mp ?_⟩
        rw [nI_toInt (by omega)]
        omega
    · rintro (q | ⟨j, j1, j2⟩)
      · rw [q, show (-nI 1).toInt = -1 from rfl]; omega
      · rw [j2, nI_toInt (by omega)]; omega
  rw [s_M_in]
  cases b with
  | true => rw [if_pos (e.mpr rfl)]; rfl
  | false => rw [if_neg (fun q => by cases e.mp q)]; rfl
theorem s_fl0 (d : Nat) (x : Int32) (A : mm_A) (I : mm_I) (hR : RepR 0 A I) (g : Good A) (b : Bool) (h : (x = -nI 1 ∨ ∃ j, j < A 0 0 6 ∧ x = nI j) ↔ b = true) : Sn (d + 2) q_M_flight [.inr (12, 0), .inl x] I = if b = true then Rn (d + 1) q_M_flight 4 [some (.inr (12, 0)), some (.inl x), some (.inl (nI 0))] [] I else some (some (.inl (-nI 1000000001)), (sh0, I)) := by
  have hm10 : A 0 0 6 ≤ 10 := g.2.1 4 (by decide)
  have hm : I 47 0 6 = nI (A 0 0 6) := hR.1 6 (by decide)
  have hin := s_inL d (A 0 0 6) x I hm10 b h
  rw [n_M_flight, e_M_flight_0, if_pos (by decide), show (6 : Int32).toInt.toNat = 6 from rfl, hm, hin, bd_s, ct_s]
  cases b with
  | true => exact (e_M_flight_1 (d + 1) x none 1 I).trans (by rw [if_neg (by decide), e_M_flight_3]; rfl)
  | false => exact (e_M_flight_1 (d + 1) x none 0 I).trans (by rw [if_pos (by decide), e_M_flight_2]; rfl)
theorem Ok_flight (d : Nat) (x : Int32) : Ok (d + 200) q_H_flight q_M_flight [.inl x] := by
  by_cases hx : x = -nI 1
  · subst hx
    refine call_hill (fun A => nI (flA (wL A) (A 0 0 6))) (fun A => A) (fun A I hC F g hy => ?_) (fun A I hR g hy h8 => ?_) (fun A g h => ⟨g, h, rfl⟩)
    · obtain ⟨I', p1, p2, p3, p4⟩ := s_findFewest (d + 178) A I hC F g
      refine ⟨I', ?_, RepC_o hC g p2 (by decide), Fix_e F p2 (by decide), fr_eqo p2 (fun k q i => by simp at q; unfold dC; omega)⟩
      simp (disch := omega) only [n_H_flight, e_H_flight_0, e_H_flight_4, e_H_flight_5, e_H_flight_6, e_H_flight_8, lit, nad, nml, bd_s, ct_s, ct_n, a11, a01, aB2, bitA, nlt, nle, neq, dlT, dlF, deT, deF, dqT, dqF, nN, inb, nsb, ndv, nrm, if_true, if_false, ite_true, ite_false, true_and, and_true, and_self, and_false, false_and, or_true, true_or, or_false, false_or, or_self, ↓reduceIte, eq_self, Nat.reduceAdd, Nat.reduceMul, Nat.reduceSub, Nat.reduceDiv, Nat.reduceMod, Nat.zero_add, Nat.mul_zero, not_true_eq_false, not_false_eq_true, up_T, up_F, wr_T, wr_F, ngE, ngE', ngL, ngL', ngQ, ngQ', p1, p3, eq_self]
    · obtain ⟨I', p1, p2, p3⟩ := s_M_flT (d + 198) (-nI 1) A I hR g
      refine ⟨I', ?_, RepR_o hR (by rw [p2 47 (by decide)]), fr_eqo p2 (fun k q i => by simp at q; unfold dM'; omega), k12_e p2 (by decide)⟩
      rw [s_fl0 (d + 198) (-nI 1) A I hR g true (by simp), if_pos rfl, p1, e_M_flight_7, if_pos (by decide), e_M_flight_8, e_M_flight_10]
  rcases ix x with ht | ⟨j, hj, ht⟩
  · refine call_id (fun _ => -nI 1000000001) (fun A I _ _ _ _ => ?_) (fun A I hR g _ _ => ?_)
    · have hh := s_Rows_hasN (d + 198) 4 x I ht
      simp (disch := omega) only [n_H_flight, e_H_flight_0, e_H_flight_1, e_H_flight_2, e_H_flight_3, lit, nad, nml, bd_s, ct_s, ct_n, a11, a01, aB2, bitA, nlt, nle, neq, dlT, dlF, deT, deF, dqT, dqF, nN, inb, nsb, ndv, nrm, if_true, if_false, ite_true, ite_false, true_and, and_true, and_self, and_false, false_and, or_true, true_or, or_false, false_or, or_self, ↓reduceIte, eq_self, Nat.reduceAdd, Nat.reduceMul, Nat.reduceSub, Nat.reduceDiv, Nat.reduceMod, Nat.zero_add, Nat.mul_zero, not_true_eq_false, not_false_eq_true, up_T, up_F, wr_T, wr_F, ngE, ngE', ngL, ngL', ngQ, ngQ', hh, hx]
    · rw [s_fl0 (d + 198) x A I hR g false ?_]
      · rfl
      · refine ⟨?_, fun q => by cases q⟩
        rintro (q | ⟨j, j1, j2⟩)
        · exact absurd q hx
        · have hm10 : A 0 0 6 ≤ 10 := g.2.1 4 (by decide)
          rw [j2, nlt (by omega) (by decide)] at ht
          omega
  subst ht
  refine call_hill (fun A => if j < A 0 0 6 then nI (asg (wL A) (flA (wL A) (A 0 0 6)) (A 0 0 6) 0 (fun _ => 0) j) else -nI 1000000001) (fun A => A) (fun A I hC F g hy => ?_) (fun A I hR g hy h8 => ?_) (fun A g h => ⟨g, h, rfl⟩)
  · have hm10 : A 0 0 6 ≤ 10 := g.2.1 4 (by decide)
    have hh := s_Rows_has (d + 198) 4 j (A 0 0 6) I (c0_mn hC (t := 4) (by decide)) (by omega) hj
    by_cases e : j < A 0 0 6
    · simp only [if_pos e] at hh ⊢
      obtain ⟨I', p1, p2, p3, p4⟩ := s_findFewest (d + 178) A I hC F g
      refine ⟨I', ?_, RepC_o hC g p2 (by decide), Fix_e F p2 (by decide), fr_eqo p2 (fun k q i => by simp at q; unfold dC; omega)⟩
      simp (disch := omega) only [n_H_flight, e_H_flight_0, e_H_flight_1, e_H_flight_2, e_H_flight_4, e_H_flight_5, e_H_flight_7, e_H_flight_8, lit, nad, nml, bd_s, ct_s, ct_n, a11, a01, aB2, bitA, nlt, nle, neq, dlT, dlF, deT, deF, dqT, dqF, nN, inb, nsb, ndv, nrm, if_true, if_false, ite_true, ite_false, true_and, and_true, and_self, and_false, false_and, or_true, true_or, or_false, false_or, or_self, ↓reduceIte, eq_self, Nat.reduceAdd, Nat.reduceMul, Nat.reduceSub, Nat.reduceDiv, Nat.reduceMod, Nat.zero_add, Nat.mul_zero, not_true_eq_false, not_false_eq_true, up_T, up_F, wr_T, wr_F, ngE, ngE', ngL, ngL', ngQ, ngQ', p1, p4 j e, hh, hx]
    · simp only [if_neg e] at hh ⊢
      exact ⟨I, by simp (disch := omega) only [n_H_flight, e_H_flight_0, e_H_flight_1, e_H_flight_2, e_H_flight_3, lit, nad, nml, bd_s, ct_s, ct_n, a11, a01, aB2, bitA, nlt, nle, neq, dlT, dlF, deT, deF, dqT, dqF, nN, inb, nsb, ndv, nrm, if_true, if_false, ite_true, ite_false, true_and, and_true, and_self, and_false, false_and, or_true, true_or, or_false, false_or, or_self, ↓reduceIte, eq_self, Nat.reduceAdd, Nat.reduceMul, Nat.reduceSub, Nat.reduceDiv, Nat.reduceMod, Nat.zero_add, Nat.mul_zero, not_true_eq_false, not_false_eq_true, up_T, up_F, wr_T, wr_F, ngE, ngE', ngL, ngL', ngQ, ngQ', hh, hx], hC, F, fr_rf _ _⟩
  · have hm10 : A 0 0 6 ≤ 10 := g.2.1 4 (by decide)
    by_cases e : j < A 0 0 6
    · simp only [if_pos e]
      obtain ⟨I', p1, p2, p3⟩ := s_M_flT (d + 198) (nI j) A I hR g
      refine ⟨I', ?_, RepR_o hR (by rw [p2 47 (by decide)]), fr_eqo p2 (fun k q i => by simp at q; unfold dM'; omega), k12_e p2 (by decide)⟩
      rw [s_fl0 (d + 198) (nI j) A I hR g true ⟨fun _ => rfl, fun _ => Or.inr ⟨j, e, rfl⟩⟩, if_pos rfl, p1]
      simp (disch := omega) only [e_M_flight_7, e_M_flight_9, e_M_flight_10, lit, nad, nml, bd_s, ct_s, ct_n, a11, a01, aB2, bitA, nlt, nle, neq, dlT, dlF, deT, deF, dqT, dqF, nN, inb, nsb, ndv, nrm, if_true, if_false, ite_true, ite_false, true_and, and_true, and_self, and_false, false_and, or_true, true_or, or_false, false_or, or_self, ↓reduceIte, eq_self, Nat.reduceAdd, Nat.reduceMul, Nat.reduceSub, Nat.reduceDiv, Nat.reduceMod, Nat.zero_add, Nat.mul_zero, not_true_eq_false, not_false_eq_true, up_T, up_F, wr_T, wr_F, ngE, ngE', ngL, ngL', ngQ, ngQ', p3 j e]
    · simp only [if_neg e]
      refine ⟨I, ?_, hR, fr_rf _ _, k12_rf _⟩
      rw [s_fl0 (d + 198) (nI j) A I hR g false ?_]
      · rfl
      · refine ⟨?_, fun q => by cases q⟩
        rintro (q | ⟨j', j1, j2⟩)
        · exact absurd q hx
        · rw [neq hj (by omega)] at j2
          omega
