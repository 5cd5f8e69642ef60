/-! Calls: rows that are added, and plain ones. -/
theorem call_id {D mH mM : Nat} {as : List mm_V} (ans : mm_A → Int32)
    (hH : ∀ A I, RepC 0 A I → Fix I → Good A → A 0 0 11 ≤ 200 → Sn D mH (.inr (11, 0) :: as) I = some (some (.inl (ans A)), (sh0, I)))
    (hM : ∀ A I, RepR 0 A I → Good A → A 0 0 11 ≤ 200 → I 12 0 8 = -nI 1 → Sn D mM (.inr (12, 0) :: as) I = some (some (.inl (ans A)), (sh0, I))) : Ok D mH mM as :=
  call_hill ans (fun A => A) (fun A I h1 h2 h3 h4 => ⟨I, hH A I h1 h2 h3 h4, h1, h2, fr_rf _ _⟩) (fun A I h1 h2 h3 h4 => ⟨I, hM A I h1 h2 h3 h4, h1, fr_rf _ _, k12_rf _⟩) (fun A g h => ⟨g, h, rfl⟩)
theorem Ok_rain (d : Nat) (y v : Int32) : Ok (d + 200) q_H_rain q_M_rain [.inl y, .inl v] := by
  by_cases h : (nI 0 ≤ y ∧ y ≤ nI 200) ∧ (nI 0 ≤ v ∧ v ≤ nI 20)
  · obtain ⟨j, -, j1, j2⟩ := wof h.1 (by decide) (by decide)
    obtain ⟨k, -, k1, k2⟩ := wof h.2 (by decide) (by decide)
    subst j2; subst k2
    refine call_hill (fun A => nI (A 2 0 j)) (fun A => sA A 2 0 j k) (fun A I hC F g _ => ⟨mm_up I 28 0 j (nI k), ?_, RepC_rain hC, Fix_up F (by omega), fr_up (fr_rf _ _) (by unfold dC hc; omega)⟩) (fun A I hR g _ _ => ⟨mm_up I 47 0 (340 + j) (nI k), ?_, RepR_rain hR g (by omega), fr_up (fr_rf _ _) (by unfold dM'; omega), k12_of (by funext i j'; exact up_F (by omega))⟩) (fun A g h => ⟨Good_rain g k1, by rw [sA_o (by decide)]; exact h, by rw [sA_o (by decide)]⟩)
    · have := hC.2.2.2.1 j (by omega)
      simp (disch := omega) only [n_H_rain, e_H_rain_0, e_H_rain_1, e_H_rain_2, e_H_rain_3, e_H_rain_4, e_H_rain_5, s_H_within, lit, nad, nml, bd_s, ct_s, ct_n, a11, a01, aB2, bitA, nlt, nle, neq, dlT, dlF, deT, deF, dqT, dqF, nN, inb, nsb, ndv, nrm, if_true, if_false, ite_true, ite_false, true_and, and_true, and_self, and_false, false_and, or_true, true_or, or_false, false_or, or_self, reduceIte, eq_self, Nat.reduceAdd, Nat.reduceMul, Nat.reduceSub, Nat.reduceDiv, Nat.reduceMod, Nat.zero_add, Nat.mul_zero, not_true_eq_false, not_false_eq_true, up_T, up_F, wr_T, wr_F, ngE, ngE', ngL, ngL', ngQ, ngQ', this]
    · have := hR.2.2.1 j (by omega)
      simp (disch := omega) only [n_M_rain, e_M_rain_0, e_M_rain_1, e_M_rain_2, e_M_rain_3, e_M_rain_4, e_M_rain_5, s_M_in, lit, nad, nml, bd_s, ct_s, ct_n, a11, a01, aB2, bitA, nlt, nle, neq, dlT, dlF, deT, deF, dqT, dqF, nN, inb, nsb, ndv, nrm, if_true, if_false, ite_true, ite_false, true_and, and_true, and_self, and_false, false_and, or_true, true_or, or_false, false_or, or_self, reduceIte, eq_self, Nat.reduceAdd, Nat.reduceMul, Nat.reduceSub, Nat.reduceDiv, Nat.reduceMod, Nat.zero_add, Nat.mul_zero, not_true_eq_false, not_false_eq_true, up_T, up_F, wr_T, wr_F, ngE, ngE', ngL, ngL', ngQ, ngQ', this]
  · refine call_id (fun _ => -nI 1000000001) (fun A I _ _ _ _ => ?_) (fun A I _ _ _ _ => ?_)
    · by_cases h1 : nI 0 ≤ y ∧ y ≤ nI 200
      · have h2 : ¬ (nI 0 ≤ v ∧ v ≤ nI 20) := fun q => h ⟨h1, q⟩
        simp (disch := omega) only [n_H_rain, e_H_rain_0, e_H_rain_1, e_H_rain_2, e_H_rain_3, e_H_rain_4, e_H_rain_5, s_H_within, lit, nad, nml, bd_s, ct_s, ct_n, a11, a01, aB2, bitA, nlt, nle, neq, dlT, dlF, deT, deF, dqT, dqF, nN, inb, nsb, ndv, nrm, if_true, if_false, ite_true, ite_false, true_and, and_true, and_self, and_false, false_and, or_true, true_or, or_false, false_or, or_self, reduceIte, eq_self, Nat.reduceAdd, Nat.reduceMul, Nat.reduceSub, Nat.reduceDiv, Nat.reduceMod, Nat.zero_add, Nat.mul_zero, not_true_eq_false, not_false_eq_true, up_T, up_F, wr_T, wr_F, ngE, ngE', ngL, ngL', ngQ, ngQ', h1, h2]
      · simp (disch := omega) only [n_H_rain, e_H_rain_0, e_H_rain_1, e_H_rain_2, e_H_rain_3, e_H_rain_4, e_H_rain_5, s_H_within, lit, nad, nml, bd_s, ct_s, ct_n, a11, a01, aB2, bitA, nlt, nle, neq, dlT, dlF, deT, deF, dqT, dqF, nN, inb, nsb, ndv, nrm, if_true, if_false, ite_true, ite_false, true_and, and_true, and_self, and_false, false_and, or_true, true_or, or_false, false_or, or_self, reduceIte, eq_self, Nat.reduceAdd, Nat.reduceMul, Nat.reduceSub, Nat.reduceDiv, Nat.reduceMod, Nat.zero_add, Nat.mul_zero, not_true_eq_false, not_false_eq_true, up_T, up_F, wr_T, wr_F, ngE, ngE', ngL, ngL', ngQ, ngQ', h1]
    · by_cases h1 : nI 0 ≤ y ∧ y ≤ nI 200
      · have h2 : ¬ (nI 0 ≤ v ∧ v ≤ nI 20) := fun q => h ⟨h1, q⟩
        simp (disch := omega) only [n_M_rain, e_M_rain_0, e_M_rain_1, e_M_rain_2, e_M_rain_3, e_M_rain_4, e_M_rain_5, s_M_in, lit, nad, nml, bd_s, ct_s, ct_n, a11, a01, aB2, bitA, nlt, nle, neq, dlT, dlF, deT, deF, dqT, dqF, nN, inb, nsb, ndv, nrm, if_true, if_false, ite_true, ite_false, true_and, and_true, and_self, and_false, false_and, or_true, true_or, or_false, false_or, or_self, reduceIte, eq_self, Nat.reduceAdd, Nat.reduceMul, Nat.reduceSub, Nat.reduceDiv, Nat.reduceMod, Nat.zero_add, Nat.mul_zero, not_true_eq_false, not_false_eq_true, up_T, up_F, wr_T, wr_F, ngE, ngE', ngL, ngL', ngQ, ngQ', h1, h2]
      · simp (disch := omega) only [n_M_rain, e_M_rain_0, e_M_rain_1, e_M_rain_2, e_M_rain_3, e_M_rain_4, e_M_rain_5, s_M_in, lit, nad, nml, bd_s, ct_s, ct_n, a11, a01, aB2, bitA, nlt, nle, neq, dlT, dlF, deT, deF, dqT, dqF, nN, inb, nsb, ndv, nrm, if_true, if_false, ite_true, ite_false, true_and, and_true, and_self, and_false, false_and, or_true, true_or, or_false, false_or, or_self, reduceIte, eq_self, Nat.reduceAdd, Nat.reduceMul, Nat.reduceSub, Nat.reduceDiv, Nat.reduceMod, Nat.zero_add, Nat.mul_zero, not_true_eq_false, not_false_eq_true, up_T, up_F, wr_T, wr_F, ngE, ngE', ngL, ngL', ngQ, ngQ', h1]
theorem Ok_beds (d : Nat) (v : Int32) : Ok (d + 200) q_H_beds q_M_beds [.inl v] := by
  by_cases h : nI 0 ≤ v ∧ v ≤ nI 10
  · obtain ⟨k, -, k1, k2⟩ := wof h (by decide) (by decide)
    subst k2
    refine call_hill (fun A => nI (A 0 0 9)) (fun A => sA A 0 0 9 k) (fun A I hC F g _ => ⟨mm_up I 3 0 13 (nI k), ?_, RepC_beds hC, Fix_up F (by omega), fr_up (fr_rf _ _) (by unfold dC hc; omega)⟩) (fun A I hR g _ _ => ⟨mm_up I 47 0 9 (nI k), ?_, RepR_sc hR g (by omega) (by omega), fr_up (fr_rf _ _) (by unfold dM'; omega), k12_of (by funext i j'; exact up_F (by omega))⟩) (fun A g h => ⟨Good_sc g (by omega) (fun _ => k1) (fun q => by omega) (fun q => by omega), by rw [sA_F (by decide)]; exact h, by rw [sA_F (by decide)]⟩)
    · have := hC.1.2.2.1
      simp (disch := omega) only [n_H_beds, e_H_beds_0, e_H_beds_1, e_H_beds_2, e_H_beds_3, s_H_within, lit, nad, nml, bd_s, ct_s, ct_n, a11, a01, aB2, bitA, nlt, nle, neq, dlT, dlF, deT, deF, dqT, dqF, nN, inb, nsb, ndv, nrm, if_true, if_false, ite_true, ite_false, true_and, and_true, and_self, and_false, false_and, or_true, true_or, or_false, false_or, or_self, reduceIte, eq_self, Nat.reduceAdd, Nat.reduceMul, Nat.reduceSub, Nat.reduceDiv, Nat.reduceMod, Nat.zero_add, Nat.mul_zero, not_true_eq_false, not_false_eq_true, up_T, up_F, wr_T, wr_F, ngE, ngE', ngL, ngL', ngQ, ngQ', this]
    · have := hR.1 9 (by decide)
      simp (disch := omega) only [n_M_beds, e_M_beds_0, e_M_beds_1, e_M_beds_2, e_M_beds_3, s_M_in, lit, nad, nml, bd_s, ct_s, ct_n, a11, a01, aB2, bitA, nlt, nle, neq, dlT, dlF, deT, deF, dqT, dqF, nN, inb, nsb, ndv, nrm, if_true, if_false, ite_true, ite_false, true_and, and_true, and_self, and_false, false_and, or_true, true_or, or_false, false_or, or_self, reduceIte, eq_self, Nat.reduceAdd, Nat.reduceMul, Nat.reduceSub, Nat.reduceDiv, Nat.reduceMod, Nat.zero_add, Nat.mul_zero, not_true_eq_false, not_false_eq_true, up_T, up_F, wr_T, wr_F, ngE, ngE', ngL, ngL', ngQ, ngQ', this]
  · refine call_id (fun _ => -nI 1000000001) (fun A I _ _ _ _ => ?_) (fun A I _ _ _ _ => ?_)
    · simp (disch := omega) only [n_H_beds, e_H_beds_0, e_H_beds_1, e_H_beds_2, e_H_beds_3, s_H_within, lit, nad, nml, bd_s, ct_s, ct_n, a11, a01, aB2, bitA, nlt, nle, neq, dlT, dlF, deT, deF, dqT, dqF, nN, inb, nsb, ndv, nrm, if_true, if_false, ite_true, ite_false, true_and, and_true, and_self, and_false, false_and, or_true, true_or, or_false, false_or, or_self, reduceIte, eq_self, Nat.reduceAdd, Nat.reduceMul, Nat.reduceSub, Nat.reduceDiv, Nat.reduceMod, Nat.zero_add, Nat.mul_zero, not_true_eq_false, not_false_eq_true, up_T, up_F, wr_T, wr_F, ngE, ngE', ngL, ngL', ngQ, ngQ', h]
    · simp (disch := omega) only [n_M_beds, e_M_beds_0, e_M_beds_1, e_M_beds_2, e_M_beds_3, s_M_in, lit, nad, nml, bd_s, ct_s, ct_n, a11, a01, aB2, bitA, nlt, nle, neq, dlT, dlF, deT, deF, dqT, dqF, nN, inb, nsb, ndv, nrm, if_true, if_false, ite_true, ite_false, true_and, and_true, and_self, and_false, false_and, or_true, true_or, or_false, false_or, or_self, reduceIte, eq_self, Nat.reduceAdd, Nat.reduceMul, Nat.reduceSub, Nat.reduceDiv, Nat.reduceMod, Nat.zero_add, Nat.mul_zero, not_true_eq_false, not_false_eq_true, up_T, up_F, wr_T, wr_F, ngE, ngE', ngL, ngL', ngQ, ngQ', h]
theorem md10 (j : Nat) : j - j / 10 * 10 = j % 10 := by omega
theorem s_add0 (d t x y z : Nat) (A : mm_A) (I : mm_I) (hC : RepC 0 A I) (F : Fix I) (g : Good A) (ht : t < 7) : Sn (d + 4) q_Rows_add [.inr (7, t), .inl (nI x), .inl (nI y), .inl (nI z)] I = if A 0 0 (tH t) < tM t then some (some (.inl (nI (A 0 0 (tH t)))), (sh0, wr (mm_up I 7 t 3 (nI (A 0 0 (tH t) + 1))) 37 t (A 0 0 (tH t) * tW t) (tW t) (ad3 (nI x) (nI y) (nI z)))) else some (some (.inl (-nI 1000000003)), (sh0, I)) := by
  have e : t % 7 = t := by omega
  have := s_Rows_add d t (A 0 0 (tH t)) (nI x) (nI y) (nI z) I (by omega) F (c0_mn hC ht) (by rw [e]; exact g.2.1 t ht)
  rw [e] at this
  exact this
theorem Fix_add {I : mm_I} {t b n : Nat} {x : Int32} {v : Nat → Int32} (F : Fix I) : Fix (wr (mm_up I 7 t 3 x) 37 t b n v) := Fix_wr (Fix_up F (by omega)) (by omega)
theorem fr_add {I : mm_I} {t b n : Nat} {x : Int32} {v : Nat → Int32} (ht : t < 7) : fr dC I (wr (mm_up I 7 t 3 x) 37 t b n v) := fr_wr (fr_up (fr_rf _ _) (by unfold dC hc; omega)) (by unfold dC hc; omega)
theorem s_H_areTwoCairns (d j : Nat) (I : mm_I) (hj : j ≤ 99) : Sn (d + 2) q_H_areTwoCairns [.inl (nI j)] I = some (some (.inl (nI (if j / 10 = j % 10 then 0 else 1))), (sh0, I)) := by
  by_cases e : j / 10 = j % 10
  · simp (disch := omega) only [n_H_areTwoCairns, e_H_areTwoCairns_0, e_H_areTwoCairns_1, e_H_areTwoCairns_2, e_H_areTwoCairns_3, e_H_areTwoCairns_4, e_H_areTwoCairns_5, s_H_within, lit, nad, nml, bd_s, ct_s, ct_n, a11, a01, aB2, bitA, nlt, nle, neq, dlT, dlF, deT, deF, dqT, dqF, nN, inb, nsb, ndv, nrm, if_true, if_false, ite_true, ite_false, true_and, and_true, and_self, and_false, false_and, or_true, true_or, or_false, false_or, or_self, reduceIte, eq_self, Nat.reduceAdd, Nat.reduceMul, Nat.reduceSub, Nat.reduceDiv, Nat.reduceMod, Nat.zero_add, Nat.mul_zero, not_true_eq_false, not_false_eq_true, up_T, up_F, wr_T, wr_F, ngE, ngE', ngL, ngL', ngQ, ngQ', md10]
  · simp (disch := omega) only [n_H_areTwoCairns, e_H_areTwoCairns_0, e_H_areTwoCairns_1, e_H_areTwoCairns_2, e_H_areTwoCairns_3, e_H_areTwoCairns_4, e_H_areTwoCairns_5, s_H_within, lit, nad, nml, bd_s, ct_s, ct_n, a11, a01, aB2, bitA, nlt, nle, neq, dlT, dlF, deT, deF, dqT, dqF, nN, inb, nsb, ndv, nrm, if_true, if_false, ite_true, ite_false, true_and, and_true, and_self, and_false, false_and, or_true, true_or, or_false, false_or, or_self, reduceIte, eq_self, Nat.reduceAdd, Nat.reduceMul, Nat.reduceSub, Nat.reduceDiv, Nat.reduceMod, Nat.zero_add, Nat.mul_zero, not_true_eq_false, not_false_eq_true, up_T, up_F, wr_T, wr_F, ngE, ngE', ngL, ngL', ngQ, ngQ', md10]
theorem s_H_areTwoCairnsN (d : Nat) (x : Int32) (I : mm_I) (h : ¬ (nI 0 ≤ x ∧ x ≤ nI 99)) : Sn (d + 2) q_H_areTwoCairns [.inl x] I = some (some (.inl (nI 0)), (sh0, I)) := by
  simp (disch := omega) only [n_H_areTwoCairns, e_H_areTwoCairns_0, e_H_areTwoCairns_1, e_H_areTwoCairns_2, e_H_areTwoCairns_3, e_H_areTwoCairns_4, e_H_areTwoCairns_5, s_H_within, lit, nad, nml, bd_s, ct_s, ct_n, a11, a01, aB2, bitA, nlt, nle, neq, dlT, dlF, deT, deF, dqT, dqF, nN, inb, nsb, ndv, nrm, if_true, if_false, ite_true, ite_false, true_and, and_true, and_self, and_false, false_and, or_true, true_or, or_false, false_or, or_self, reduceIte, eq_self, Nat.reduceAdd, Nat.reduceMul, Nat.reduceSub, Nat.reduceDiv, Nat.reduceMod, Nat.zero_add, Nat.mul_zero, not_true_eq_false, not_false_eq_true, up_T, up_F, wr_T, wr_F, ngE, ngE', ngL, ngL', ngQ, ngQ', h]
theorem Ok_trip (d : Nat) (c b : Int32) : Ok (d + 200) q_H_trip q_M_trip [.inl c, .inl b] := by
  by_cases h1 : nI 0 ≤ c ∧ c ≤ nI 99
  · obtain ⟨j, -, j1, j2⟩ := wof h1 (by decide) (by decide)
    subst j2
    by_cases h3 : j / 10 = j % 10
    · refine call_id (fun _ => -nI 1000000001) (fun A I _ _ _ _ => ?_) (fun A I _ _ _ _ => ?_)
      · simp (disch := omega) only [n_H_trip, e_H_trip_0, e_H_trip_1, e_H_trip_2, e_H_trip_3, e_H_trip_4, e_H_trip_5, e_H_trip_6, s_H_areTwoCairns, lit, nad, nml, bd_s, ct_s, ct_n, a11, a01, aB2, bitA, nlt, nle, neq, dlT, dlF, deT, deF, dqT, dqF, nN, inb, nsb, ndv, nrm, if_true, if_false, ite_true, ite_false, true_and, and_true, and_self, and_false, false_and, or_true, true_or, or_false, false_or, or_self, reduceIte, eq_self, Nat.reduceAdd, Nat.reduceMul, Nat.reduceSub, Nat.reduceDiv, Nat.reduceMod, Nat.zero_add, Nat.mul_zero, not_true_eq_false, not_false_eq_true, up_T, up_F, wr_T, wr_F, ngE, ngE', ngL, ngL', ngQ, ngQ']
      · simp (disch := omega) only [n_M_trip, e_M_trip_0, e_M_trip_1, e_M_trip_2, e_M_trip_3, e_M_trip_4, e_M_trip_5, e_M_trip_6, e_M_trip_7, e_M_trip_8, s_M_in, lit, nad, nml, bd_s, ct_s, ct_n, a11, a01, aB2, bitA, nlt, nle, neq, dlT, dlF, deT, deF, dqT, dqF, nN, inb, nsb, ndv, nrm, if_true, if_false, ite_true, ite_false, true_and, and_true, and_self, and_false, false_and, or_true, true_or, or_false, false_or, or_self, reduceIte, eq_self, Nat.reduceAdd, Nat.reduceMul, Nat.reduceSub, Nat.reduceDiv, Nat.reduceMod, Nat.zero_add, Nat.mul_zero, not_true_eq_false, not_false_eq_true, up_T, up_F, wr_T, wr_F, ngE, ngE', ngL, ngL', ngQ, ngQ', md10]
    · by_cases h2 : nI 0 ≤ b ∧ b ≤ nI 9999
      · obtain ⟨k, -, k1, k2⟩ := wof h2 (by decide) (by decide)
        subst k2
        refine call_hill (fun A => if A 0 0 1 < 12 then nI (A 0 0 1) else -nI 1000000003) (fun A => if A 0 0 1 < 12 then rowA A 0 (j / 10) (j % 10) k else A) (fun A I hC F g _ => ?_) (fun A I hR g _ _ => ?_) (fun A g h => ?_)
        · have ha := s_add0 (d + 195) 0 (j / 10) (j % 10) k A I hC F g (by decide)
          by_cases e : A 0 0 1 < 12
          · rw [if_pos (show A 0 0 (tH 0) < tM 0 from e)] at ha
            simp only [if_pos e]
            refine ⟨_, ?_, RepC_add0 hC (t := 0) (by decide), Fix_add F, fr_add (by decide)⟩
            simp (disch := omega) only [n_H_trip, e_H_trip_0, e_H_trip_1, e_H_trip_2, e_H_trip_3, e_H_trip_4, e_H_trip_5, e_H_trip_6, s_H_areTwoCairns, s_H_within, lit, nad, nml, bd_s, ct_s, ct_n, a11, a01, aB2, bitA, nlt, nle, neq, dlT, dlF, deT, deF, dqT, dqF, nN, inb, nsb, ndv, nrm, if_true, if_false, ite_true, ite_false, true_and, and_true, and_self, and_false, false_and, or_true, true_or, or_false, false_or, or_self, reduceIte, eq_self, Nat.reduceAdd, Nat.reduceMul, Nat.reduceSub, Nat.reduceDiv, Nat.reduceMod, Nat.zero_add, Nat.mul_zero, not_true_eq_false, not_false_eq_true, up_T, up_F, wr_T, wr_F, ngE, ngE', ngL, ngL', ngQ, ngQ', md10, ha]
            rfl
          · rw [if_neg (show ¬ A 0 0 (tH 0) < tM 0 from e)] at ha
            simp only [if_neg e]
            refine ⟨I, ?_, hC, F, fr_rf _ _⟩
            simp (disch := omega) only [n_H_trip, e_H_trip_0, e_H_trip_1, e_H_trip_2, e_H_trip_3, e_H_trip_4, e_H_trip_5, e_H_trip_6, s_H_areTwoCairns, s_H_within, lit, nad, nml, bd_s, ct_s, ct_n, a11, a01, aB2, bitA, nlt, nle, neq, dlT, dlF, deT, deF, dqT, dqF, nN, inb, nsb, ndv, nrm, if_true, if_false, ite_true, ite_false, true_and, and_true, and_self, and_false, false_and, or_true, true_or, or_false, false_or, or_self, reduceIte, eq_self, Nat.reduceAdd, Nat.reduceMul, Nat.reduceSub, Nat.reduceDiv, Nat.reduceMod, Nat.zero_add, Nat.mul_zero, not_true_eq_false, not_false_eq_true, up_T, up_F, wr_T, wr_F, ngE, ngE', ngL, ngL', ngQ, ngQ', md10, ha]
        · have hn : I 47 0 1 = nI (A 0 0 1) := hR.1 1 (by decide)
          have hb : A 0 0 1 ≤ 12 := g.2.1 0 (by decide)
          by_cases e : A 0 0 1 < 12
          · simp only [if_pos e]
            refine ⟨mm_up (mm_up (mm_up (mm_up I 47 0 (156 + 3 * A 0 0 1) (nI (j / 10))) 47 0 (156 + 3 * A 0 0 1 + 1) (nI (j % 10))) 47 0 (156 + 3 * A 0 0 1 + 2) (nI k)) 47 0 1 (nI (A 0 0 1 + 1)), ?_, RepR_add (t := 0) hR g (by decide) e (up_s _ _ _ _ _) (fun c hc => ?_) (fun i i1 i2 => ?_), ?_, ?_⟩
            · simp (disch := omega) only [n_M_trip, e_M_trip_0, e_M_trip_1, e_M_trip_2, e_M_trip_3, e_M_trip_4, e_M_trip_5, e_M_trip_6, e_M_trip_7, e_M_trip_8, s_M_in, lit, nad, nml, bd_s, ct_s, ct_n, a11, a01, aB2, bitA, nlt, nle, neq, dlT, dlF, deT, deF, dqT, dqF, nN, inb, nsb, ndv, nrm, if_true, if_false, ite_true, ite_false, true_and, and_true, and_self, and_false, false_and, or_true, true_or, or_false, false_or, or_self, reduceIte, eq_self, Nat.reduceAdd, Nat.reduceMul, Nat.reduceSub, Nat.reduceDiv, Nat.reduceMod, Nat.zero_add, Nat.mul_zero, not_true_eq_false, not_false_eq_true, up_T, up_F, wr_T, wr_F, ngE, ngE', ngL, ngL', ngQ, ngQ', md10, hn, Nat.add_sub_cancel]
            · rcases (show c = 0 ∨ c = 1 ∨ c = 2 by have : c < 3 := hc; omega) with q | q | q <;> subst q
              · show mm_up _ 47 0 1 _ 47 0 (156 + 3 * A 0 0 1 + 0) = _
                simp (disch := omega) only [up_T, up_F]
                rfl
              · show mm_up _ 47 0 1 _ 47 0 (156 + 3 * A 0 0 1 + 1) = _
                simp (disch := omega) only [up_T, up_F]
                rfl
              · show mm_up _ 47 0 1 _ 47 0 (156 + 3 * A 0 0 1 + 2) = _
                simp (disch := omega) only [up_T, up_F]
                rfl
            · have i3 : i ≠ 1 := i1
              have i4 : ¬ (156 + 3 * A 0 0 1 ≤ i ∧ i < 156 + 3 * A 0 0 1 + 3) := i2
              simp (disch := omega) only [up_F]
            · exact fr_up (fr_up (fr_up (fr_up (fr_rf _ _) (by unfold dM'; omega)) (by unfold dM'; omega)) (by unfold dM'; omega)) (by unfold dM'; omega)
            · exact k12_of (by funext i j'; simp (disch := omega) only [up_F])
          · simp only [if_neg e]
            refine ⟨I, ?_, hR, fr_rf _ _, k12_rf _⟩
            simp (disch := omega) only [n_M_trip, e_M_trip_0, e_M_trip_1, e_M_trip_2, e_M_trip_3, e_M_trip_4, e_M_trip_5, e_M_trip_6, e_M_trip_7, e_M_trip_8, s_M_in, lit, nad, nml, bd_s, ct_s, ct_n, a11, a01, aB2, bitA, nlt, nle, neq, dlT, dlF, deT, deF, dqT, dqF, nN, inb, nsb, ndv, nrm, if_true, if_false, ite_true, ite_false, true_and, and_true, and_self, and_false, false_and, or_true, true_or, or_false, false_or, or_self, reduceIte, eq_self, Nat.reduceAdd, Nat.reduceMul, Nat.reduceSub, Nat.reduceDiv, Nat.reduceMod, Nat.zero_add, Nat.mul_zero, not_true_eq_false, not_false_eq_true, up_T, up_F, wr_T, wr_F, ngE, ngE', ngL, ngL', ngQ, ngQ', md10, hn]
        · by_cases e : A 0 0 1 < 12
          · simp only [if_pos e]
            refine ⟨Good_add g (by decide) e ?_, by rw [rowA_0 (by decide)]; exact h, rowA_0 (by decide)⟩
            unfold rowG ro3
            refine ⟨fun _ => ?_, fun q => by omega, fun q => by omega, fun q => by omega, fun q => by omega, fun q => by omega, fun q => by omega⟩
            simp
            omega
          · simp only [if_neg e]
            exact ⟨g, h, trivial⟩
      · refine call_id (fun _ => -nI 1000000001) (fun A I _ _ _ _ => ?_) (fun A I _ _ _ _ => ?_)
        · simp (disch := omega) only [n_H_trip, e_H_trip_0, e_H_trip_1, e_H_trip_2, e_H_trip_3, e_H_trip_4, e_H_trip_5, e_H_trip_6, s_H_areTwoCairns, s_H_within, lit, nad, nml, bd_s, ct_s, ct_n, a11, a01, aB2, bitA, nlt, nle, neq, dlT, dlF, deT, deF, dqT, dqF, nN, inb, nsb, ndv, nrm, if_true, if_false, ite_true, ite_false, true_and, and_true, and_self, and_false, false_and, or_true, true_or, or_false, false_or, or_self, reduceIte, eq_self, Nat.reduceAdd, Nat.reduceMul, Nat.reduceSub, Nat.reduceDiv, Nat.reduceMod, Nat.zero_add, Nat.mul_zero, not_true_eq_false, not_false_eq_true, up_T, up_F, wr_T, wr_F, ngE, ngE', ngL, ngL', ngQ, ngQ', h2]
        · simp (disch := omega) only [n_M_trip, e_M_trip_0, e_M_trip_1, e_M_trip_2, e_M_trip_3, e_M_trip_4, e_M_trip_5, e_M_trip_6, e_M_trip_7, e_M_trip_8, s_M_in, lit, nad, nml, bd_s, ct_s, ct_n, a11, a01, aB2, bitA, nlt, nle, neq, dlT, dlF, deT, deF, dqT, dqF, nN, inb, nsb, ndv, nrm, if_true, if_false, ite_true, ite_false, true_and, and_true, and_self, and_false, false_and, or_true, true_or, or_false, false_or, or_self, reduceIte, eq_self, Nat.reduceAdd, Nat.reduceMul, Nat.reduceSub, Nat.reduceDiv, Nat.reduceMod, Nat.zero_add, Nat.mul_zero, not_true_eq_false, not_false_eq_true, up_T, up_F, wr_T, wr_F, ngE, ngE', ngL, ngL', ngQ, ngQ', md10, h2]
  · refine call_id (fun _ => -nI 1000000001) (fun A I _ _ _ _ => ?_) (fun A I _ _ _ _ => ?_)
    · simp (disch := omega) only [n_H_trip, e_H_trip_0, e_H_trip_1, e_H_trip_2, e_H_trip_3, e_H_trip_4, e_H_trip_5, e_H_trip_6, s_H_areTwoCairnsN _ _ _ h1, lit, nad, nml, bd_s, ct_s, ct_n, a11, a01, aB2, bitA, nlt, nle, neq, dlT, dlF, deT, deF, dqT, dqF, nN, inb, nsb, ndv, nrm, if_true, if_false, ite_true, ite_false, true_and, and_true, and_self, and_false, false_and, or_true, true_or, or_false, false_or, or_self, reduceIte, eq_self, Nat.reduceAdd, Nat.reduceMul, Nat.reduceSub, Nat.reduceDiv, Nat.reduceMod, Nat.zero_add, Nat.mul_zero, not_true_eq_false, not_false_eq_true, up_T, up_F, wr_T, wr_F, ngE, ngE', ngL, ngL', ngQ, ngQ']
    · simp (disch := omega) only [n_M_trip, e_M_trip_0, e_M_trip_1, e_M_trip_2, e_M_trip_3, e_M_trip_4, e_M_trip_5, e_M_trip_6, e_M_trip_7, e_M_trip_8, s_M_in, lit, nad, nml, bd_s, ct_s, ct_n, a11, a01, aB2, bitA, nlt, nle, neq, dlT, dlF, deT, deF, dqT, dqF, nN, inb, nsb, ndv, nrm, if_true, if_false, ite_true, ite_false, true_and, and_true, and_self, and_false, false_and, or_true, true_or, or_false, false_or, or_self, reduceIte, eq_self, Nat.reduceAdd, Nat.reduceMul, Nat.reduceSub, Nat.reduceDiv, Nat.reduceMod, Nat.zero_add, Nat.mul_zero, not_true_eq_false, not_false_eq_true, up_T, up_F, wr_T, wr_F, ngE, ngE', ngL, ngL', ngQ, ngQ', h1]
