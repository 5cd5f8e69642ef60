/-! The fewest flights of the class. -/
theorem s_try (d L s l : Nat) (A : mm_A) (I0 I : mm_I) (v : Option mm_V) (hC : RepC 0 A I0) (F : Fix I0) (g : Good A) (hL : L ≤ A 0 0 6) (e : eqo [2, 26, 27] I0 I) : ∃ I', Rn (d + 20) q_Flights_findFewest 5 [some (.inr (2, 0)), some (.inr (7, 4)), some (.inl (nI s)), some (.inl (nI l)), some (.inl (nI L)), v] [] I = (if cp (wL A) L (A 0 0 6) 0 (fun _ => 0) = true then some (none, (sh0, I')) else Rn (d + 20) q_Flights_findFewest 5 [some (.inr (2, 0)), some (.inr (7, 4)), some (.inl (nI s)), some (.inl (nI l)), some (.inl (nI (L + 1))), some (.inl (nI 10))] [] I') ∧ eqo [2, 26, 27] I0 I' ∧ I' 2 0 2 = nI L ∧ (cp (wL A) L (A 0 0 6) 0 (fun _ => 0) = true → ∀ i, i < A 0 0 6 → I' 26 0 i = nI (asg (wL A) L (A 0 0 6) 0 (fun _ => 0) i)) := by
  have hm10 : A 0 0 6 ≤ 10 := g.2.1 4 (by decide)
  have hm : I 7 4 3 = nI (A 0 0 6) := by rw [e 7 (by decide)]; exact c0_mn hC (t := 4) (by decide)
  have k1 : Rn (d + 20) q_Flights_findFewest 5 [some (.inr (2, 0)), some (.inr (7, 4)), some (.inl (nI s)), some (.inl (nI l)), some (.inl (nI L)), v] [] I = Rn (d + 20) q_Flights_findFewest 7 [some (.inr (2, 0)), some (.inr (7, 4)), some (.inl (nI s)), some (.inl (nI l)), some (.inl (nI L)), some (.inl (nI 0))] [] (mm_up I 2 0 2 (nI L)) := by
    simp (disch := omega) only [e_Flights_findFewest_6, e_Flights_findFewest_5 (x4 := nI L), lit, nad, nml, bd_s, ct_s, ct_n, a11, a01, aB2, bitA, nlt, nle, neq, dlT, dlF, deT, deF, dqT, dqF, nN, inb, nsb, ndv, nrm, if_true, if_false, ite_true, ite_false, true_and, and_true, and_self, and_false, false_and, or_true, true_or, or_false, false_or, or_self, ↓reduceIte, eq_self, Nat.reduceAdd, Nat.reduceMul, Nat.reduceSub, Nat.reduceDiv, Nat.reduceMod, Nat.zero_add, Nat.mul_zero, not_true_eq_false, not_false_eq_true, up_T, up_F, wr_T, wr_F, ngE, ngE', ngL, ngL', ngQ, ngQ', hm]
  have k2 := lpG (n := 10) (fun i J => Rn (d + 20) q_Flights_findFewest 7 [some (.inr (2, 0)), some (.inr (7, 4)), some (.inl (nI s)), some (.inl (nI l)), some (.inl (nI L)), some (.inl (nI i))] [] J) (fun i => wr (mm_up I 2 0 2 (nI L)) 27 0 0 i (fun _ => nI 0)) (fun i hi => by
    have := wr_s (mm_up I 2 0 2 (nI L)) 27 0 0 i (fun _ => nI 0)
    rw [Nat.zero_add] at this
    simp (disch := omega) only [e_Flights_findFewest_8, e_Flights_findFewest_7 (x5 := nI i), lit, nad, nml, bd_s, ct_s, ct_n, a11, a01, aB2, bitA, nlt, nle, neq, dlT, dlF, deT, deF, dqT, dqF, nN, inb, nsb, ndv, nrm, if_true, if_false, ite_true, ite_false, true_and, and_true, and_self, and_false, false_and, or_true, true_or, or_false, false_or, or_self, ↓reduceIte, eq_self, Nat.reduceAdd, Nat.reduceMul, Nat.reduceSub, Nat.reduceDiv, Nat.reduceMod, Nat.zero_add, Nat.mul_zero, not_true_eq_false, not_false_eq_true, up_T, up_F, wr_T, wr_F, ngE, ngE', ngL, ngL', ngQ, ngQ', ← this]) 0 (Nat.zero_le _)
  rw [show wr (mm_up I 2 0 2 (nI L)) 27 0 0 0 (fun _ => nI 0) = mm_up I 2 0 2 (nI L) from wr_0 _ _ _ _ _] at k2
  have e2 : eqo [2, 26, 27] I0 (wr (mm_up I 2 0 2 (nI L)) 27 0 0 10 (fun _ => nI 0)) := eqo_wr (eqo_up e (by decide)) (by decide)
  obtain ⟨I', p1, p2, p3, p4, p5⟩ := s_place (d + 17 - A 0 0 6) L A I0 hC F g (by omega) (A 0 0 6) 0 (fun _ => 0) (wr (mm_up I 2 0 2 (nI L)) 27 0 0 10 (fun _ => nI 0)) (Nat.zero_add _) e2 (by rw [wr_F (by omega), up_s]) (fun _ _ => Nat.zero_le _) (fun f hf => by rw [wr_T (by omega)])
  rw [show d + 17 - A 0 0 6 + 3 + A 0 0 6 = d + 20 by omega] at p1
  refine ⟨I', ?_, eqo_tr e2 (eqo_mono p2 (by decide)), by rw [p2 2 (by decide), wr_F (by omega), up_s], fun q i hi => p4 q i (Nat.zero_le _) hi⟩
  rw [k1, k2]
  cases c : cp (wL A) L (A 0 0 6) 0 (fun _ => 0) with
  | true =>
    rw [c] at p1
    simp (disch := omega) only [e_Flights_findFewest_9, e_Flights_findFewest_10, e_Flights_findFewest_11, e_Flights_findFewest_7 (x5 := nI 10), lit, nad, nml, bd_s, ct_s, ct_n, a11, a01, aB2, bitA, nlt, nle, neq, dlT, dlF, deT, deF, dqT, dqF, nN, inb, nsb, ndv, nrm, if_true, if_false, ite_true, ite_false, true_and, and_true, and_self, and_false, false_and, or_true, true_or, or_false, false_or, or_self, ↓reduceIte, eq_self, Nat.reduceAdd, Nat.reduceMul, Nat.reduceSub, Nat.reduceDiv, Nat.reduceMod, Nat.zero_add, Nat.mul_zero, not_true_eq_false, not_false_eq_true, up_T, up_F, wr_T, wr_F, ngE, ngE', ngL, ngL', ngQ, ngQ', p1, show b2 true = 1 from rfl]
  | false =>
    rw [c] at p1
    simp (disch := omega) only [e_Flights_findFewest_9, e_Flights_findFewest_10, e_Flights_findFewest_12, e_Flights_findFewest_7 (x5 := nI 10), lit, nad, nml, bd_s, ct_s, ct_n, a11, a01, aB2, bitA, nlt, nle, neq, dlT, dlF, deT, deF, dqT, dqF, nN, inb, nsb, ndv, nrm, if_true, if_false, ite_true, ite_false, true_and, and_true, and_self, and_false, false_and, or_true, true_or, or_false, false_or, or_self, ↓reduceIte, eq_self, Nat.reduceAdd, Nat.reduceMul, Nat.reduceSub, Nat.reduceDiv, Nat.reduceMod, Nat.zero_add, Nat.mul_zero, not_true_eq_false, not_false_eq_true, up_T, up_F, wr_T, wr_F, ngE, ngE', ngL, ngL', ngQ, ngQ', p1, show b2 false = 0 from rfl, reduceCtorEq]
theorem s_findFewest (d : Nat) (A : mm_A) (I : mm_I) (hC : RepC 0 A I) (F : Fix I) (g : Good A) : ∃ I', Sn (d + 21) q_Flights_findFewest [.inr (2, 0), .inr (7, 4)] I = some (none, (sh0, I')) ∧ eqo [2, 26, 27] I I' ∧ I' 2 0 2 = nI (flA (wL A) (A 0 0 6)) ∧ ∀ i, i < A 0 0 6 → I' 26 0 i = nI (asg (wL A) (flA (wL A) (A 0 0 6)) (A 0 0 6) 0 (fun _ => 0) i) := by
  have hm10 : A 0 0 6 ≤ 10 := g.2.1 4 (by decide)
  have hm : I 7 4 3 = nI (A 0 0 6) := c0_mn hC (t := 4) (by decide)
  have hs : ∀ i, i ≤ A 0 0 6 → sm (wL A) i ≤ 100 * i := fun i _ => sm_le (fun f _ => wL_b g f)
  obtain ⟨f1, f2, f3⟩ := flA_of (m := A 0 0 6) (wL_b g)
  have f4 := flA_ge (m := A 0 0 6) (wL_b g)
  have hsm := hs (A 0 0 6) (Nat.le_refl _)
  rw [n_Flights_findFewest, e_Flights_findFewest_0]
  have k1 := lpG (n := A 0 0 6) (fun i s => Rn (d + 20) q_Flights_findFewest 1 [some (.inr (2, 0)), some (.inr (7, 4)), some (.inl (nI s)), some (.inl (nI i)), none, none] [] I) (sm (wL A)) (fun i hi => by
    have a0 := s_at0 (d + 18) 4 i 0 A I hC F g (by decide) hi (by decide)
    rw [← wL_e hi] at a0
    have := hs i (by omega)
    have := wL_b g i
    simp (disch := omega) only [e_Flights_findFewest_2, e_Flights_findFewest_3, e_Flights_findFewest_1 (x3 := nI i), lit, nad, nml, bd_s, ct_s, ct_n, a11, a01, aB2, bitA, nlt, nle, neq, dlT, dlF, deT, deF, dqT, dqF, nN, inb, nsb, ndv, nrm, if_true, if_false, ite_true, ite_false, true_and, and_true, and_self, and_false, false_and, or_true, true_or, or_false, false_or, or_self, ↓reduceIte, eq_self, Nat.reduceAdd, Nat.reduceMul, Nat.reduceSub, Nat.reduceDiv, Nat.reduceMod, Nat.zero_add, Nat.mul_zero, not_true_eq_false, not_false_eq_true, up_T, up_F, wr_T, wr_F, ngE, ngE', ngL, ngL', ngQ, ngQ', hm, a0, sm]) 0 (Nat.zero_le _)
  have k2 : Rn (d + 20) q_Flights_findFewest 1 [some (.inr (2, 0)), some (.inr (7, 4)), some (.inl (nI (sm (wL A) (A 0 0 6)))), some (.inl (nI (A 0 0 6))), none, none] [] I = Rn (d + 20) q_Flights_findFewest 5 [some (.inr (2, 0)), some (.inr (7, 4)), some (.inl (nI (sm (wL A) (A 0 0 6)))), some (.inl (nI ((sm (wL A) (A 0 0 6) + 99) / 100))), some (.inl (nI ((sm (wL A) (A 0 0 6) + 99) / 100))), none] [] I := by
    simp (disch := omega) only [e_Flights_findFewest_1, e_Flights_findFewest_4, lit, nad, nml, bd_s, ct_s, ct_n, a11, a01, aB2, bitA, nlt, nle, neq, dlT, dlF, deT, deF, dqT, dqF, nN, inb, nsb, ndv, nrm, if_true, if_false, ite_true, ite_false, true_and, and_true, and_self, and_false, false_and, or_true, true_or, or_false, false_or, or_self, ↓reduceIte, eq_self, Nat.reduceAdd, Nat.reduceMul, Nat.reduceSub, Nat.reduceDiv, Nat.reduceMod, Nat.zero_add, Nat.mul_zero, not_true_eq_false, not_false_eq_true, up_T, up_F, wr_T, wr_F, ngE, ngE', ngL, ngL', ngQ, ngQ', hm]
    rw [show sm (wL A) (A 0 0 6) + 100 - 1 = sm (wL A) (A 0 0 6) + 99 by omega]
  refine k1.trans k2 ▸ ?_
  refine lpX (n := flA (wL A) (A 0 0 6)) (σ := Option mm_V × mm_I) (fun L s => Rn (d + 20) q_Flights_findFewest 5 [some (.inr (2, 0)), some (.inr (7, 4)), some (.inl (nI (sm (wL A) (A 0 0 6)))), some (.inl (nI ((sm (wL A) (A 0 0 6) + 99) / 100))), some (.inl (nI L)), s.1] [] s.2) (fun _ s => eqo [2, 26, 27] I s.2) (fun q => ∃ I', q = some (none, (sh0, I')) ∧ eqo [2, 26, 27] I I' ∧ I' 2 0 2 = nI (flA (wL A) (A 0 0 6)) ∧ ∀ i, i < A 0 0 6 → I' 26 0 i = nI (asg (wL A) (flA (wL A) (A 0 0 6)) (A 0 0 6) 0 (fun _ => 0) i)) ?_ ?_ ((sm (wL A) (A 0 0 6) + 99) / 100) (none, I) f4 (eqo_rf _ _)
  · rintro L ⟨v, J⟩ hL hJ
    right
    obtain ⟨I', p1, p2, p3, p4⟩ := s_try d L (sm (wL A) (A 0 0 6)) ((sm (wL A) (A 0 0 6) + 99) / 100) A I J v hC F g (by omega) hJ
    rw [f3 L hL, if_neg (by decide)] at p1
    exact ⟨(some (.inl (nI 10)), I'), p2, p1⟩
  · rintro ⟨v, J⟩ hJ
    obtain ⟨I', p1, p2, p3, p4⟩ := s_try d (flA (wL A) (A 0 0 6)) (sm (wL A) (A 0 0 6)) ((sm (wL A) (A 0 0 6) + 99) / 100) A I J v hC F g f1 hJ
    rw [f2, if_pos rfl] at p1
    exact ⟨I', p1, p2, p3, p4 f2⟩
