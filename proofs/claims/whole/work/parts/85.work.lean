/-! What a text works out. -/
def jo (c : Nat) (a b : Int32) : Int32 := if c = 20124 then (if a = nI 0 then (if b = nI 0 then nI 0 else nI 1) else nI 1) else if c = 20038 then (if a = nI 0 then nI 0 else if b = nI 0 then nI 0 else nI 1) else if c = 20060 then (if a < b then nI 1 else nI 0) else if c = 20061 then (if a = b then nI 1 else nI 0) else if c = 20062 then (if b < a then nI 1 else nI 0) else if c = 20043 then a + b else if c = 20045 then a - b else if c = 20042 then a * b else (if b = nI 0 then nI 0 else a / b)
def opC (c : Nat) : Prop := c = 20124 ∨ c = 20038 ∨ c = 20060 ∨ c = 20061 ∨ c = 20062 ∨ c = 20043 ∨ c = 20045 ∨ c = 20042 ∨ c = 20047
theorem s_Text_join (d c : Nat) (a b : Int32) (I : mm_I) (hc : opC c) : Sn (d + 1) q_Text_join [.inl (nI (c - 20000)), .inl a, .inl b] I = some (some (.inl (jo c a b)), (sh0, I)) := by
  unfold jo
  rcases hc with e | e | e | e | e | e | e | e | e <;> subst e
  · by_cases h1 : a = nI 0 <;> by_cases h2 : b = nI 0 <;> simp (disch := omega) only [n_Text_join, e_Text_join_0, e_Text_join_1, e_Text_join_2, e_Text_join_3, e_Text_join_4, e_Text_join_5, e_Text_join_6, e_Text_join_7, e_Text_join_8, e_Text_join_9, e_Text_join_10, e_Text_join_11, e_Text_join_12, e_Text_join_13, e_Text_join_14, e_Text_join_15, e_Text_join_16, e_Text_join_17, e_Text_join_18, e_Text_join_19, e_Text_join_20, e_Text_join_21, e_Text_join_22, e_Text_join_23, e_Text_join_24, e_Text_join_25, e_Text_join_26, e_Text_join_27, e_Text_join_28, e_Text_join_29, lit, nad, nml, bd_s, ct_s, ct_n, a11, a01, aB2, bitA, nlt, nle, neq, dlT, dlF, deT, deF, dqT, dqF, nN, inb, nsb, ndv, nrm, if_true, if_false, ite_true, ite_false, true_and, and_true, and_self, and_false, false_and, or_true, true_or, or_false, false_or, or_self, ↓reduceIte, eq_self, Nat.reduceAdd, Nat.reduceMul, Nat.reduceSub, Nat.reduceDiv, Nat.reduceMod, Nat.zero_add, Nat.mul_zero, not_true_eq_false, not_false_eq_true, up_T, up_F, wr_T, wr_F, ngE, ngE', ngL, ngL', ngQ, ngQ', h1, h2]
  · by_cases h1 : a = nI 0 <;> by_cases h2 : b = nI 0 <;> simp (disch := omega) only [n_Text_join, e_Text_join_0, e_Text_join_1, e_Text_join_2, e_Text_join_3, e_Text_join_4, e_Text_join_5, e_Text_join_6, e_Text_join_7, e_Text_join_8, e_Text_join_9, e_Text_join_10, e_Text_join_11, e_Text_join_12, e_Text_join_13, e_Text_join_14, e_Text_join_15, e_Text_join_16, e_Text_join_17, e_Text_join_18, e_Text_join_19, e_Text_join_20, e_Text_join_21, e_Text_join_22, e_Text_join_23, e_Text_join_24, e_Text_join_25, e_Text_join_26, e_Text_join_27, e_Text_join_28, e_Text_join_29, lit, nad, nml, bd_s, ct_s, ct_n, a11, a01, aB2, bitA, nlt, nle, neq, dlT, dlF, deT, deF, dqT, dqF, nN, inb, nsb, ndv, nrm, if_true, if_false, ite_true, ite_false, true_and, and_true, and_self, and_false, false_and, or_true, true_or, or_false, false_or, or_self, ↓reduceIte, eq_self, Nat.reduceAdd, Nat.reduceMul, Nat.reduceSub, Nat.reduceDiv, Nat.reduceMod, Nat.zero_add, Nat.mul_zero, not_true_eq_false, not_false_eq_true, up_T, up_F, wr_T, wr_F, ngE, ngE', ngL, ngL', ngQ, ngQ', h1, h2]
  · by_cases h1 : a < b <;> simp (disch := omega) only [n_Text_join, e_Text_join_0, e_Text_join_1, e_Text_join_2, e_Text_join_3, e_Text_join_4, e_Text_join_5, e_Text_join_6, e_Text_join_7, e_Text_join_8, e_Text_join_9, e_Text_join_10, e_Text_join_11, e_Text_join_12, e_Text_join_13, e_Text_join_14, e_Text_join_15, e_Text_join_16, e_Text_join_17, e_Text_join_18, e_Text_join_19, e_Text_join_20, e_Text_join_21, e_Text_join_22, e_Text_join_23, e_Text_join_24, e_Text_join_25, e_Text_join_26, e_Text_join_27, e_Text_join_28, e_Text_join_29, lit, nad, nml, bd_s, ct_s, ct_n, a11, a01, aB2, bitA, nlt, nle, neq, dlT, dlF, deT, deF, dqT, dqF, nN, inb, nsb, ndv, nrm, if_true, if_false, ite_true, ite_false, true_and, and_true, and_self, and_false, false_and, or_true, true_or, or_false, false_or, or_self, ↓reduceIte, eq_self, Nat.reduceAdd, Nat.reduceMul, Nat.reduceSub, Nat.reduceDiv, Nat.reduceMod, Nat.zero_add, Nat.mul_zero, not_true_eq_false, not_false_eq_true, up_T, up_F, wr_T, wr_F, ngE, ngE', ngL, ngL', ngQ, ngQ', h1]
  · by_cases h1 : a = b <;> simp (disch := omega) only [n_Text_join, e_Text_join_0, e_Text_join_1, e_Text_join_2, e_Text_join_3, e_Text_join_4, e_Text_join_5, e_Text_join_6, e_Text_join_7, e_Text_join_8, e_Text_join_9, e_Text_join_10, e_Text_join_11, e_Text_join_12, e_Text_join_13, e_Text_join_14, e_Text_join_15, e_Text_join_16, e_Text_join_17, e_Text_join_18, e_Text_join_19, e_Text_join_20, e_Text_join_21, e_Text_join_22, e_Text_join_23, e_Text_join_24, e_Text_join_25, e_Text_join_26, e_Text_join_27, e_Text_join_28, e_Text_join_29, lit, nad, nml, bd_s, ct_s, ct_n, a11, a01, aB2, bitA, nlt, nle, neq, dlT, dlF, deT, deF, dqT, dqF, nN, inb, nsb, ndv, nrm, if_true, if_false, ite_true, ite_false, true_and, and_true, and_self, and_false, false_and, or_true, true_or, or_false, false_or, or_self, ↓reduceIte, eq_self, Nat.reduceAdd, Nat.reduceMul, Nat.reduceSub, Nat.reduceDiv, Nat.reduceMod, Nat.zero_add, Nat.mul_zero, not_true_eq_false, not_false_eq_true, up_T, up_F, wr_T, wr_F, ngE, ngE', ngL, ngL', ngQ, ngQ', h1]
  · by_cases h1 : b < a <;> simp (disch := omega) only [n_Text_join, e_Text_join_0, e_Text_join_1, e_Text_join_2, e_Text_join_3, e_Text_join_4, e_Text_join_5, e_Text_join_6, e_Text_join_7, e_Text_join_8, e_Text_join_9, e_Text_join_10, e_Text_join_11, e_Text_join_12, e_Text_join_13, e_Text_join_14, e_Text_join_15, e_Text_join_16, e_Text_join_17, e_Text_join_18, e_Text_join_19, e_Text_join_20, e_Text_join_21, e_Text_join_22, e_Text_join_23, e_Text_join_24, e_Text_join_25, e_Text_join_26, e_Text_join_27, e_Text_join_28, e_Text_join_29, lit, nad, nml, bd_s, ct_s, ct_n, a11, a01, aB2, bitA, nlt, nle, neq, dlT, dlF, deT, deF, dqT, dqF, nN, inb, nsb, ndv, nrm, if_true, if_false, ite_true, ite_false, true_and, and_true, and_self, and_false, false_and, or_true, true_or, or_false, false_or, or_self, ↓reduceIte, eq_self, Nat.reduceAdd, Nat.reduceMul, Nat.reduceSub, Nat.reduceDiv, Nat.reduceMod, Nat.zero_add, Nat.mul_zero, not_true_eq_false, not_false_eq_true, up_T, up_F, wr_T, wr_F, ngE, ngE', ngL, ngL', ngQ, ngQ', h1]
  · simp (disch := omega) only [n_Text_join, e_Text_join_0, e_Text_join_1, e_Text_join_2, e_Text_join_3, e_Text_join_4, e_Text_join_5, e_Text_join_6, e_Text_join_7, e_Text_join_8, e_Text_join_9, e_Text_join_10, e_Text_join_11, e_Text_join_12, e_Text_join_13, e_Text_join_14, e_Text_join_15, e_Text_join_16, e_Text_join_17, e_Text_join_18, e_Text_join_19, e_Text_join_20, e_Text_join_21, e_Text_join_22, e_Text_join_23, e_Text_join_24, e_Text_join_25, e_Text_join_26, e_Text_join_27, e_Text_join_28, e_Text_join_29, lit, nad, nml, bd_s, ct_s, ct_n, a11, a01, aB2, bitA, nlt, nle, neq, dlT, dlF, deT, deF, dqT, dqF, nN, inb, nsb, ndv, nrm, if_true, if_false, ite_true, ite_false, true_and, and_true, and_self, and_false, false_and, or_true, true_or, or_false, false_or, or_self, ↓reduceIte, eq_self, Nat.reduceAdd, Nat.reduceMul, Nat.reduceSub, Nat.reduceDiv, Nat.reduceMod, Nat.zero_add, Nat.mul_zero, not_true_eq_false, not_false_eq_true, up_T, up_F, wr_T, wr_F, ngE, ngE', ngL, ngL', ngQ, ngQ']
  · simp (disch := omega) only [n_Text_join, e_Text_join_0, e_Text_join_1, e_Text_join_2, e_Text_join_3, e_Text_join_4, e_Text_join_5, e_Text_join_6, e_Text_join_7, e_Text_join_8, e_Text_join_9, e_Text_join_10, e_Text_join_11, e_Text_join_12, e_Text_join_13, e_Text_join_14, e_Text_join_15, e_Text_join_16, e_Text_join_17, e_Text_join_18, e_Text_join_19, e_Text_join_20, e_Text_join_21, e_Text_join_22, e_Text_join_23, e_Text_join_24, e_Text_join_25, e_Text_join_26, e_Text_join_27, e_Text_join_28, e_Text_join_29, lit, nad, nml, bd_s, ct_s, ct_n, a11, a01, aB2, bitA, nlt, nle, neq, dlT, dlF, deT, deF, dqT, dqF, nN, inb, nsb, ndv, nrm, if_true, if_false, ite_true, ite_false, true_and, and_true, and_self, and_false, false_and, or_true, true_or, or_false, false_or, or_self, ↓reduceIte, eq_self, Nat.reduceAdd, Nat.reduceMul, Nat.reduceSub, Nat.reduceDiv, Nat.reduceMod, Nat.zero_add, Nat.mul_zero, not_true_eq_false, not_false_eq_true, up_T, up_F, wr_T, wr_F, ngE, ngE', ngL, ngL', ngQ, ngQ']
  · simp (disch := omega) only [n_Text_join, e_Text_join_0, e_Text_join_1, e_Text_join_2, e_Text_join_3, e_Text_join_4, e_Text_join_5, e_Text_join_6, e_Text_join_7, e_Text_join_8, e_Text_join_9, e_Text_join_10, e_Text_join_11, e_Text_join_12, e_Text_join_13, e_Text_join_14, e_Text_join_15, e_Text_join_16, e_Text_join_17, e_Text_join_18, e_Text_join_19, e_Text_join_20, e_Text_join_21, e_Text_join_22, e_Text_join_23, e_Text_join_24, e_Text_join_25, e_Text_join_26, e_Text_join_27, e_Text_join_28, e_Text_join_29, lit, nad, nml, bd_s, ct_s, ct_n, a11, a01, aB2, bitA, nlt, nle, neq, dlT, dlF, deT, deF, dqT, dqF, nN, inb, nsb, ndv, nrm, if_true, if_false, ite_true, ite_false, true_and, and_true, and_self, and_false, false_and, or_true, true_or, or_false, false_or, or_self, ↓reduceIte, eq_self, Nat.reduceAdd, Nat.reduceMul, Nat.reduceSub, Nat.reduceDiv, Nat.reduceMod, Nat.zero_add, Nat.mul_zero, not_true_eq_false, not_false_eq_true, up_T, up_F, wr_T, wr_F, ngE, ngE', ngL, ngL', ngQ, ngQ']
  · by_cases h1 : b = nI 0 <;> simp (disch := omega) only [n_Text_join, e_Text_join_0, e_Text_join_1, e_Text_join_2, e_Text_join_3, e_Text_join_4, e_Text_join_5, e_Text_join_6, e_Text_join_7, e_Text_join_8, e_Text_join_9, e_Text_join_10, e_Text_join_11, e_Text_join_12, e_Text_join_13, e_Text_join_14, e_Text_join_15, e_Text_join_16, e_Text_join_17, e_Text_join_18, e_Text_join_19, e_Text_join_20, e_Text_join_21, e_Text_join_22, e_Text_join_23, e_Text_join_24, e_Text_join_25, e_Text_join_26, e_Text_join_27, e_Text_join_28, e_Text_join_29, lit, nad, nml, bd_s, ct_s, ct_n, a11, a01, aB2, bitA, nlt, nle, neq, dlT, dlF, deT, deF, dqT, dqF, nN, inb, nsb, ndv, nrm, if_true, if_false, ite_true, ite_false, true_and, and_true, and_self, and_false, false_and, or_true, true_or, or_false, false_or, or_self, ↓reduceIte, eq_self, Nat.reduceAdd, Nat.reduceMul, Nat.reduceSub, Nat.reduceDiv, Nat.reduceMod, Nat.zero_add, Nat.mul_zero, not_true_eq_false, not_false_eq_true, up_T, up_F, wr_T, wr_F, ngE, ngE', ngL, ngL', ngQ, ngQ', h1]
theorem dcR_n {c : Nat} (h : c < 20000) : dcR c = nI c := if_pos h
def ngC (c : Nat) : Nat := if c = 20124 then 1 else if c = 20038 then 2 else if c = 20060 then 3 else if c = 20061 then 4 else if c = 20062 then 5 else if c = 20043 then 6 else if c = 20045 then 7 else if c = 20042 then 8 else if c = 20047 then 9 else 10
theorem dcR_o {c : Nat} (h : opC c) : dcR c = -nI (ngC c) ∧ 1 ≤ ngC c ∧ ngC c ≤ 9 := by rcases h with e | e | e | e | e | e | e | e | e <;> subst e <;> exact ⟨rfl, by decide, by decide⟩
theorem dcR_x : dcR 20033 = -nI 10 := rfl
theorem ngN {a b : Nat} (h : a ≠ b) (ha : a < 1000) (hb : b < 1000) : (-nI a = -nI b) = False := eq_false (fun q => by
  have := congrArg Int32.toInt q
  rw [ngI (by omega), ngI (by omega)] at this
  omega)
theorem s_M_two (d c : Nat) (a b : Int32) (I : mm_I) (hc : opC c) : Sn (d + 1) q_M_two [.inl (dcR c), .inl a, .inl b] I = some (some (.inl (jo c a b)), (sh0, I)) := by
  rw [(dcR_o hc).1]
  unfold jo
  rcases hc with e | e | e | e | e | e | e | e | e <;> subst e <;> simp only [ngC, if_true, if_false, Nat.reduceEqDiff]
  · by_cases h1 : a = nI 0 <;> by_cases h2 : b = nI 0 <;> simp (disch := omega) only [n_M_two, e_M_two_0, e_M_two_1, e_M_two_2, e_M_two_3, e_M_two_4, e_M_two_5, e_M_two_6, e_M_two_7, e_M_two_8, e_M_two_9, e_M_two_10, e_M_two_11, e_M_two_12, e_M_two_13, e_M_two_14, e_M_two_15, e_M_two_16, e_M_two_17, e_M_two_18, e_M_two_19, e_M_two_20, e_M_two_21, e_M_two_22, e_M_two_23, e_M_two_24, e_M_two_25, e_M_two_26, e_M_two_27, e_M_two_28, e_M_two_29, lit, nad, nml, bd_s, ct_s, ct_n, a11, a01, aB2, bitA, nlt, nle, neq, dlT, dlF, deT, deF, dqT, dqF, nN, inb, nsb, ndv, nrm, if_true, if_false, ite_true, ite_false, true_and, and_true, and_self, and_false, false_and, or_true, true_or, or_false, false_or, or_self, ↓reduceIte, eq_self, Nat.reduceAdd, Nat.reduceMul, Nat.reduceSub, Nat.reduceDiv, Nat.reduceMod, Nat.zero_add, Nat.mul_zero, not_true_eq_false, not_false_eq_true, up_T, up_F, wr_T, wr_F, ngE, ngE', ngL, ngL', ngQ, ngQ', ngN, h1, h2]
  · by_cases h1 : a = nI 0 <;> by_cases h2 : b = nI 0 <;> simp (disch := omega) only [n_M_two, e_M_two_0, e_M_two_1, e_M_two_2, e_M_two_3, e_M_two_4, e_M_two_5, e_M_two_6, e_M_two_7, e_M_two_8, e_M_two_9, e_M_two_10, e_M_two_11, e_M_two_12, e_M_two_13, e_M_two_14, e_M_two_15, e_M_two_16, e_M_two_17, e_M_two_18, e_M_two_19, e_M_two_20, e_M_two_21, e_M_two_22, e_M_two_23, e_M_two_24, e_M_two_25, e_M_two_26, e_M_two_27, e_M_two_28, e_M_two_29, lit, nad, nml, bd_s, ct_s, ct_n, a11, a01, aB2, bitA, nlt, nle, neq, dlT, dlF, deT, deF, dqT, dqF, nN, inb, nsb, ndv, nrm, if_true, if_false, ite_true, ite_false, true_and, and_true, and_self, and_false, false_and, or_true, true_or, or_false, false_or, or_self, ↓reduceIte, eq_self, Nat.reduceAdd, Nat.reduceMul, Nat.reduceSub, Nat.reduceDiv, Nat.reduceMod, Nat.zero_add, Nat.mul_zero, not_true_eq_false, not_false_eq_true, up_T, up_F, wr_T, wr_F, ngE, ngE', ngL, ngL', ngQ, ngQ', ngN, h1, h2]
  · by_cases h1 : a < b <;> simp (disch := omega) only [n_M_two, e_M_two_0, e_M_two_1, e_M_two_2, e_M_two_3, e_M_two_4, e_M_two_5, e_M_two_6, e_M_two_7, e_M_two_8, e_M_two_9, e_M_two_10, e_M_two_11, e_M_two_12, e_M_two_13, e_M_two_14, e_M_two_15, e_M_two_16, e_M_two_17, e_M_two_18, e_M_two_19, e_M_two_20, e_M_two_21, e_M_two_22, e_M_two_23, e_M_two_24, e_M_two_25, e_M_two_26, e_M_two_27, e_M_two_28, e_M_two_29, lit, nad, nml, bd_s, ct_s, ct_n, a11, a01, aB2, bitA, nlt, nle, neq, dlT, dlF, deT, deF, dqT, dqF, nN, inb, nsb, ndv, nrm, if_true, if_false, ite_true, ite_false, true_and, and_true, and_self, and_false, false_and, or_true, true_or, or_false, false_or, or_self, ↓reduceIte, eq_self, Nat.reduceAdd, Nat.reduceMul, Nat.reduceSub, Nat.reduceDiv, Nat.reduceMod, Nat.zero_add, Nat.mul_zero, not_true_eq_false, not_false_eq_true, up_T, up_F, wr_T, wr_F, ngE, ngE', ngL, ngL', ngQ, ngQ', ngN, h1]
  · by_cases h1 : a = b <;> simp (disch := omega) only [n_M_two, e_M_two_0, e_M_two_1, e_M_two_2, e_M_two_3, e_M_two_4, e_M_two_5, e_M_two_6, e_M_two_7, e_M_two_8, e_M_two_9, e_M_two_10, e_M_two_11, e_M_two_12, e_M_two_13, e_M_two_14, e_M_two_15, e_M_two_16, e_M_two_17, e_M_two_18, e_M_two_19, e_M_two_20, e_M_two_21, e_M_two_22, e_M_two_23, e_M_two_24, e_M_two_25, e_M_two_26, e_M_two_27, e_M_two_28, e_M_two_29, lit, nad, nml, bd_s, ct_s, ct_n, a11, a01, aB2, bitA, nlt, nle, neq, dlT, dlF, deT, deF, dqT, dqF, nN, inb, nsb, ndv, nrm, if_true, if_false, ite_true, ite_false, true_and, and_true, and_self, and_false, false_and, or_true, true_or, or_false, false_or, or_self, ↓reduceIte, eq_self, Nat.reduceAdd, Nat.reduceMul, Nat.reduceSub, Nat.reduceDiv, Nat.reduceMod, Nat.zero_add, Nat.mul_zero, not_true_eq_false, not_false_eq_true, up_T, up_F, wr_T, wr_F, ngE, ngE', ngL, ngL', ngQ, ngQ', ngN, h1]
  · by_cases h1 : b < a <;> simp (disch := omega) only [n_M_two, e_M_two_0, e_M_two_1, e_M_two_2, e_M_two_3, e_M_two_4, e_M_two_5, e_M_two_6, e_M_two_7, e_M_two_8, e_M_two_9, e_M_two_10, e_M_two_11, e_M_two_12, e_M_two_13, e_M_two_14, e_M_two_15, e_M_two_16, e_M_two_17, e_M_two_18, e_M_two_19, e_M_two_20, e_M_two_21, e_M_two_22, e_M_two_23, e_M_two_24, e_M_two_25, e_M_two_26, e_M_two_27, e_M_two_28, e_M_two_29, lit, nad, nml, bd_s, ct_s, ct_n, a11, a01, aB2, bitA, nlt, nle, neq, dlT, dlF, deT, deF, dqT, dqF, nN, inb, nsb, ndv, nrm, if_true, if_false, ite_true, ite_false, true_and, and_true, and_self, and_false, false_and, or_true, true_or, or_false, false_or, or_self, ↓reduceIte, eq_self, Nat.reduceAdd, Nat.reduceMul, Nat.reduceSub, Nat.reduceDiv, Nat.reduceMod, Nat.zero_add, Nat.mul_zero, not_true_eq_false, not_false_eq_true, up_T, up_F, wr_T, wr_F, ngE, ngE', ngL, ngL', ngQ, ngQ', ngN, h1]
  · simp (disch := omega) only [n_M_two, e_M_two_0, e_M_two_1, e_M_two_2, e_M_two_3, e_M_two_4, e_M_two_5, e_M_two_6, e_M_two_7, e_M_two_8, e_M_two_9, e_M_two_10, e_M_two_11, e_M_two_12, e_M_two_13, e_M_two_14, e_M_two_15, e_M_two_16, e_M_two_17, e_M_two_18, e_M_two_19, e_M_two_20, e_M_two_21, e_M_two_22, e_M_two_23, e_M_two_24, e_M_two_25, e_M_two_26, e_M_two_27, e_M_two_28, e_M_two_29, lit, nad, nml, bd_s, ct_s, ct_n, a11, a01, aB2, bitA, nlt, nle, neq, dlT, dlF, deT, deF, dqT, dqF, nN, inb, nsb, ndv, nrm, if_true, if_false, ite_true, ite_false, true_and, and_true, and_self, and_false, false_and, or_true, true_or, or_false, false_or, or_self, ↓reduceIte, eq_self, Nat.reduceAdd, Nat.reduceMul, Nat.reduceSub, Nat.reduceDiv, Nat.reduceMod, Nat.zero_add, Nat.mul_zero, not_true_eq_false, not_false_eq_true, up_T, up_F, wr_T, wr_F, ngE, ngE', ngL, ngL', ngQ, ngQ', ngN]
  · simp (disch := omega) only [n_M_two, e_M_two_0, e_M_two_1, e_M_two_2, e_M_two_3, e_M_two_4, e_M_two_5, e_M_two_6, e_M_two_7, e_M_two_8, e_M_two_9, e_M_two_10, e_M_two_11, e_M_two_12, e_M_two_13, e_M_two_14, e_M_two_15, e_M_two_16, e_M_two_17, e_M_two_18, e_M_two_19, e_M_two_20, e_M_two_21, e_M_two_22, e_M_two_23, e_M_two_24, e_M_two_25, e_M_two_26, e_M_two_27, e_M_two_28, e_M_two_29, lit, nad, nml, bd_s, ct_s, ct_n, a11, a01, aB2, bitA, nlt, nle, neq, dlT, dlF, deT, deF, dqT, dqF, nN, inb, nsb, ndv, nrm, if_true, if_false, ite_true, ite_false, true_and, and_true, and_self, and_false, false_and, or_true, true_or, or_false, false_or, or_self, ↓reduceIte, eq_self, Nat.reduceAdd, Nat.reduceMul, Nat.reduceSub, Nat.reduceDiv, Nat.reduceMod, Nat.zero_add, Nat.mul_zero, not_true_eq_false, not_false_eq_true, up_T, up_F, wr_T, wr_F, ngE, ngE', ngL, ngL', ngQ, ngQ', ngN]
  · simp (disch := omega) only [n_M_two, e_M_two_0, e_M_two_1, e_M_two_2, e_M_two_3, e_M_two_4, e_M_two_5, e_M_two_6, e_M_two_7, e_M_two_8, e_M_two_9, e_M_two_10, e_M_two_11, e_M_two_12, e_M_two_13, e_M_two_14, e_M_two_15, e_M_two_16, e_M_two_17, e_M_two_18, e_M_two_19, e_M_two_20, e_M_two_21, e_M_two_22, e_M_two_23, e_M_two_24, e_M_two_25, e_M_two_26, e_M_two_27, e_M_two_28, e_M_two_29, lit, nad, nml, bd_s, ct_s, ct_n, a11, a01, aB2, bitA, nlt, nle, neq, dlT, dlF, deT, deF, dqT, dqF, nN, inb, nsb, ndv, nrm, if_true, if_false, ite_true, ite_false, true_and, and_true, and_self, and_false, false_and, or_true, true_or, or_false, false_or, or_self, ↓reduceIte, eq_self, Nat.reduceAdd, Nat.reduceMul, Nat.reduceSub, Nat.reduceDiv, Nat.reduceMod, Nat.zero_add, Nat.mul_zero, not_true_eq_false, not_false_eq_true, up_T, up_F, wr_T, wr_F, ngE, ngE', ngL, ngL', ngQ, ngQ', ngN]
  · by_cases h1 : b = nI 0 <;> simp (disch := omega) only [n_M_two, e_M_two_0, e_M_two_1, e_M_two_2, e_M_two_3, e_M_two_4, e_M_two_5, e_M_two_6, e_M_two_7, e_M_two_8, e_M_two_9, e_M_two_10, e_M_two_11, e_M_two_12, e_M_two_13, e_M_two_14, e_M_two_15, e_M_two_16, e_M_two_17, e_M_two_18, e_M_two_19, e_M_two_20, e_M_two_21, e_M_two_22, e_M_two_23, e_M_two_24, e_M_two_25, e_M_two_26, e_M_two_27, e_M_two_28, e_M_two_29, lit, nad, nml, bd_s, ct_s, ct_n, a11, a01, aB2, bitA, nlt, nle, neq, dlT, dlF, deT, deF, dqT, dqF, nN, inb, nsb, ndv, nrm, if_true, if_false, ite_true, ite_false, true_and, and_true, and_self, and_false, false_and, or_true, true_or, or_false, false_or, or_self, ↓reduceIte, eq_self, Nat.reduceAdd, Nat.reduceMul, Nat.reduceSub, Nat.reduceDiv, Nat.reduceMod, Nat.zero_add, Nat.mul_zero, not_true_eq_false, not_false_eq_true, up_T, up_F, wr_T, wr_F, ngE, ngE', ngL, ngL', ngQ, ngQ', ngN, h1]
def evH (cs : Nat → Nat) : Nat → Nat
  | 0 => 0
  | k + 1 => if cs k < 20000 then evH cs k + 1 else if cs k = 20033 then evH cs k else evH cs k - 1
def uI (s : Nat → Int32) (a : Nat) (y : Int32) : Nat → Int32 := fun c => if c = a then y else s c
theorem uI_s (s : Nat → Int32) (a : Nat) (y : Int32) : uI s a y a = y := if_pos rfl
theorem uI_n {s : Nat → Int32} {a c : Nat} {y : Int32} (h : c ≠ a) : uI s a y c = s c := if_neg h
def evS (cs : Nat → Nat) (nm : Nat → Int32) : Nat → Nat → Int32
  | 0 => fun _ => nI 0
  | k + 1 => if cs k < 20000 then uI (evS cs nm k) (evH cs k) (if cs k < 10000 then nI (cs k) else nm (cs k - 10000)) else if cs k = 20033 then uI (evS cs nm k) (evH cs k - 1) (if evS cs nm k (evH cs k - 1) = nI 0 then nI 1 else nI 0) else uI (evS cs nm k) (evH cs k - 2) (jo (cs k) (evS cs nm k (evH cs k - 2)) (evS cs nm k (evH cs k - 1)))
def okH (cs : Nat → Nat) (n : Nat) : Prop := evH cs n = 1 ∧ ∀ k, k < n → okC (cs k) ∧ (cs k = 20033 → 0 < evH cs k) ∧ (opC (cs k) → 1 < evH cs k)
theorem evH_le (cs : Nat → Nat) : ∀ k, evH cs k ≤ k
  | 0 => Nat.le_refl _
  | k + 1 => by
    have := evH_le cs k
    rw [evH]
    split
    · omega
    · split <;> omega
theorem okC_op {c : Nat} (h : okC c) : c < 10003 ∨ c = 20033 ∨ opC c := by unfold okC at h; unfold opC; omega
theorem op_ge {c : Nat} (h : opC c) : ¬ c < 20000 ∧ c ≠ 20033 ∧ c < 20200 := by unfold opC at h; omega
theorem okH_of {A : mm_A} {r : Nat} (h1 : ∀ c ∈ cods A r, okC c) (h2 : hgt (cods A r) 0 = some 1) : okH (fun k => A 3 r (5 + k)) (A 3 r 4) := by
  have hm : ∀ k, k < A 3 r 4 → okC (A 3 r (5 + k)) := fun k hk => h1 _ (List.mem_map.mpr ⟨k, List.mem_range.mpr hk, rfl⟩)
  have key : ∀ n k, k + n = A 3 r 4 → hgt ((cods A r).drop k) (evH (fun k => A 3 r (5 + k)) k) = some 1 → evH (fun k => A 3 r (5 + k)) (A 3 r 4) = 1 ∧ ∀ i, k ≤ i → i < A 3 r 4 → (A 3 r (5 + i) = 20033 → 0 < evH (fun k => A 3 r (5 + k)) i) ∧ (opC (A 3 r (5 + i)) → 1 < evH (fun k => A 3 r (5 + k)) i) := by
    intro n
    induction n with
    | zero =>
      intro k hk h
      have hl : (cods A r).drop k = [] := List.drop_eq_nil_of_le (by unfold cods; simp; omega)
      rw [hl, hgt] at h
      have hk' : k = A 3 r 4 := by omega
      subst hk'
      exact ⟨Option.some.inj h, fun i h1 h2 => by omega⟩
    | succ n ih =>
      intro k hk h
      have hlen : k < (cods A r).length := by unfold cods; simp; omega
      have hg : ∀ (h : k < (cods A r).length), (cods A r)[k] = A 3 r (5 + k) := by unfold cods; intro h; simp
      have hl : (cods A r).drop k = A 3 r (5 + k) :: (cods A r).drop (k + 1) := by
        rw [List.drop_eq_getElem_cons hlen, hg hlen]
      rw [hl, hgt] at h
      have fin : hgt ((cods A r).drop (k + 1)) (evH (fun k => A 3 r (5 + k)) (k + 1)) = some 1 ∧ (A 3 r (5 + k) = 20033 → 0 < evH (fun k => A 3 r (5 + k)) k) ∧ (opC (A 3 r (5 + k)) → 1 < evH (fun k => A 3 r (5 + k)) k) := by
        rw [evH]
        by_cases e1 : A 3 r (5 + k) < 20000
        · rw [if_pos e1] at h ⊢
          exact ⟨h, fun q => by omega, fun q => absurd e1 (op_ge q).1⟩
        · rw [if_neg e1] at h ⊢
          by_cases e2 : A 3 r (5 + k) = 20033
          · rw [if_pos e2] at h ⊢
            split at h
            · rename_i e3
              exact ⟨h, fun _ => e3, fun q => absurd e2 (op_ge q).2.1⟩
            · cases h
          · rw [if_neg e2] at h ⊢
            split at h
            · rename_i e3
              exact ⟨h, fun q => absurd q e2, fun _ => e3⟩
            · cases h
      obtain ⟨i1, i2⟩ := ih (k + 1) (by omega) fin.1
      refine ⟨i1, fun i hi hi2 => ?_⟩
      by_cases e : i = k
      · subst e; exact fin.2
      · exact i2 i (by omega) hi2
  obtain ⟨k1, k2⟩ := key (A 3 r 4) 0 (by omega) h2
  exact ⟨k1, fun k hk => ⟨hm k hk, k2 k (Nat.zero_le _) hk⟩⟩
theorem x_work_18 (d r h k c : Nat) (I : mm_I) (h1 : 1 < h) (h2 : h ≤ 96) (hc : 20000 ≤ c) (hc2 : c < 30000) (y : Int32) (hj : Sn d q_Text_join [.inl (nI (c - 20000)), .inl (I 39 r (h - 2)), .inl (I 39 r (h - 1))] I = some (some (.inl y), (sh0, I))) : Rn d q_Text_workOut 18 [some (.inr (9, r)), some (.inr (44, 0)), some (.inl (nI h)), some (.inl (nI k)), some (.inl (nI c))] [] I = Rn d q_Text_workOut 20 [some (.inr (9, r)), some (.inr (44, 0)), some (.inl (nI (h - 1))), some (.inl (nI k)), some (.inl (nI c))] [] (mm_up I 39 r (h - 2) y) := by
  have e1 : nI h + (-1 : Int32) = nI (h - 1) := nmn (b := 1) (by omega)
  have e2 : nI (h - 1) - (1 : Int32) = nI (h - 2) := by
    have := nsb (show 1 ≤ h - 1 by omega)
    rw [show h - 1 - 1 = h - 2 by omega] at this
    exact this
  have e3 : nI c - (20000 : Int32) = nI (c - 20000) := nsb hc
  rw [e_Text_workOut_18, ep_Text_workOut_18_0, e1, eb_Text_workOut_18, e2, e3, nN (by omega), nN (by omega), hj, bd_s, ct_s, if_pos (by rw [nI_toInt (by omega)]; omega), if_pos (by rw [nI_toInt (by omega)]; omega)]
  refine (e_Text_workOut_19 d r (nI (h - 1)) (nI k) (nI c) r (nI (h - 2)) y I).trans ?_
  rw [nN (by omega), if_pos (by rw [nI_toInt (by omega)]; omega)]
theorem x_M_work_12 (d t n h k : Nat) (c : Int32) (I : mm_I) (h1 : 1 < h) (h2 : h ≤ 96) (y : Int32) (hj : Sn d q_M_two [.inl c, .inl (I 56 0 (h - 2)), .inl (I 56 0 (h - 1))] I = some (some (.inl y), (sh0, I))) : Rn d q_M_worksOut 12 [some (.inr (12, 0)), some (.inl (nI t)), some (.inl (nI h)), some (.inl (nI n)), some (.inl (nI k)), some (.inl c)] [] I = Rn d q_M_worksOut 14 [some (.inr (12, 0)), some (.inl (nI t)), some (.inl (nI (h - 1))), some (.inl (nI n)), some (.inl (nI k)), some (.inl c)] [] (mm_up I 56 0 (h - 2) y) := by
  have e1 : nI h + (-1 : Int32) = nI (h - 1) := nmn (b := 1) (by omega)
  have e2 : nI (h - 1) - (1 : Int32) = nI (h - 2) := by
    have := nsb (show 1 ≤ h - 1 by omega)
    rw [show h - 1 - 1 = h - 2 by omega] at this
    exact this
  rw [e_M_worksOut_12, ep_M_worksOut_12_0, e1, eb_M_worksOut_12, e2, nN (by omega), nN (by omega), hj, bd_s, ct_s, if_pos (by rw [nI_toInt (by omega)]; omega), if_pos (by rw [nI_toInt (by omega)]; omega)]
  refine (e_M_worksOut_13 d (nI t) (nI (h - 1)) (nI n) (nI k) c (nI (h - 2)) y I).trans ?_
  rw [nN (by omega), if_pos (by rw [nI_toInt (by omega)]; omega)]
theorem s_Text_workOut (d r n : Nat) (cs : Nat → Nat) (nm : Nat → Int32) (I : mm_I) (hl : I 9 r 4 = nI n) (hn : n ≤ 96) (hc : ∀ k, k < n → I 38 r k = nI (cs k)) (hnm : ∀ i, i < 3 → I 44 0 i = nm i) (ok : okH cs n) : ∃ I', Sn (d + 2) q_Text_workOut [.inr (9, r), .inr (44, 0)] I = some (some (.inl (evS cs nm n 0)), (sh0, I')) ∧ eqo [39] I I' := by
  rw [n_Text_workOut, e_Text_workOut_0]
  refine lpX (n := n) (σ := mm_I × Option mm_V) (fun k s => Rn (d + 1) q_Text_workOut 1 [some (.inr (9, r)), some (.inr (44, 0)), some (.inl (nI (evH cs k))), some (.inl (nI k)), s.2] [] s.1) (fun k s => eqo [39] I s.1 ∧ ∀ i, i < evH cs k → s.1 39 r i = evS cs nm k i) (fun q => ∃ I', q = some (some (.inl (evS cs nm n 0)), (sh0, I')) ∧ eqo [39] I I') ?_ ?_ 0 (I, none) (Nat.zero_le _) ⟨eqo_rf _ _, fun i hi => by exact absurd hi (Nat.not_lt_zero _)⟩
  · rintro k ⟨J, v⟩ hk ⟨j1, j2⟩
    dsimp only at j1 j2 ⊢
    have l1 : J 9 r 4 = nI n := by rw [j1 9 (by decide)]; exact hl
    have l2 : J 38 r k = nI (cs k) := by rw [j1 38 (by decide)]; exact hc k hk
    have hle := evH_le cs k
    obtain ⟨k1, k2, k3⟩ := ok.2 k hk
    right
    rcases okC_op k1 with e | e | e
    · have hh : evH cs (k + 1) = evH cs k + 1 := by rw [evH, if_pos (by omega)]
      have hs : evS cs nm (k + 1) = uI (evS cs nm k) (evH cs k) (if cs k < 10000 then nI (cs k) else nm (cs k - 10000)) := by rw [evS, if_pos (by omega)]
      refine ⟨(mm_up J 39 r (evH cs k) (if cs k < 10000 then nI (cs k) else nm (cs k - 10000)), some (.inl (nI (cs k)))), ⟨eqo_up j1 (by decide), fun i hi => ?_⟩, ?_⟩
      · dsimp only
        rw [hs]
        by_cases w : i = evH cs k
        · rw [w, up_s, uI_s]
        · rw [up_F (by omega), uI_n w]; exact j2 i (by omega)
      · dsimp only
        rw [hh]
        by_cases w : cs k < 10000
        · simp (disch := omega) only [e_Text_workOut_2, e_Text_workOut_3, e_Text_workOut_5, e_Text_workOut_6, e_Text_workOut_8, e_Text_workOut_20, e_Text_workOut_1 (x3 := nI k), lit, nad, nml, bd_s, ct_s, ct_n, a11, a01, aB2, bitA, nlt, nle, neq, dlT, dlF, deT, deF, dqT, dqF, nN, inb, nsb, ndv, nrm, if_true, if_false, ite_true, ite_false, true_and, and_true, and_self, and_false, false_and, or_true, true_or, or_false, false_or, or_self, ↓reduceIte, eq_self, Nat.reduceAdd, Nat.reduceMul, Nat.reduceSub, Nat.reduceDiv, Nat.reduceMod, Nat.zero_add, Nat.mul_zero, not_true_eq_false, not_false_eq_true, up_T, up_F, wr_T, wr_F, ngE, ngE', ngL, ngL', ngQ, ngQ', l1, l2]
        · have l3 : J 44 0 (cs k - 10000) = nm (cs k - 10000) := by rw [j1 44 (by decide)]; exact hnm _ (by omega)
          by_cases w2 : 2 ≤ cs k - 10000
          · have w3 : cs k - 10000 = 2 := by omega
            rw [w3] at l3
            simp (disch := omega) only [e_Text_workOut_2, e_Text_workOut_3, e_Text_workOut_5, e_Text_workOut_7, e_Text_workOut_8, e_Text_workOut_20, e_Text_workOut_1 (x3 := nI k), lit, nad, nml, bd_s, ct_s, ct_n, a11, a01, aB2, bitA, nlt, nle, neq, dlT, dlF, deT, deF, dqT, dqF, nN, inb, nsb, ndv, nrm, if_true, if_false, ite_true, ite_false, true_and, and_true, and_self, and_false, false_and, or_true, true_or, or_false, false_or, or_self, ↓reduceIte, eq_self, Nat.reduceAdd, Nat.reduceMul, Nat.reduceSub, Nat.reduceDiv, Nat.reduceMod, Nat.zero_add, Nat.mul_zero, not_true_eq_false, not_false_eq_true, up_T, up_F, wr_T, wr_F, ngE, ngE', ngL, ngL', ngQ, ngQ', l1, l2, l3, w3]
          · simp (disch := omega) only [e_Text_workOut_2, e_Text_workOut_3, e_Text_workOut_5, e_Text_workOut_7, e_Text_workOut_8, e_Text_workOut_20, e_Text_workOut_1 (x3 := nI k), lit, nad, nml, bd_s, ct_s, ct_n, a11, a01, aB2, bitA, nlt, nle, neq, dlT, dlF, deT, deF, dqT, dqF, nN, inb, nsb, ndv, nrm, if_true, if_false, ite_true, ite_false, true_and, and_true, and_self, and_false, false_and, or_true, true_or, or_false, false_or, or_self, ↓reduceIte, eq_self, Nat.reduceAdd, Nat.reduceMul, Nat.reduceSub, Nat.reduceDiv, Nat.reduceMod, Nat.zero_add, Nat.mul_zero, not_true_eq_false, not_false_eq_true, up_T, up_F, wr_T, wr_F, ngE, ngE', ngL, ngL', ngQ, ngQ', l1, l2, l3]
    · have h0 := k2 e
      have hh : evH cs (k + 1) = evH cs k := by rw [evH, if_neg (by omega), if_pos e]
      have hs : evS cs nm (k + 1) = uI (evS cs nm k) (evH cs k - 1) (if evS cs nm k (evH cs k - 1) = nI 0 then nI 1 else nI 0) := by rw [evS, if_neg (by omega), if_pos e]
      have l3 := j2 (evH cs k - 1) (by omega)
      refine ⟨(mm_up J 39 r (evH cs k - 1) (if evS cs nm k (evH cs k - 1) = nI 0 then nI 1 else nI 0), some (.inl (nI (cs k)))), ⟨eqo_up j1 (by decide), fun i hi => ?_⟩, ?_⟩
      · dsimp only
        rw [hh] at hi
        rw [hs]
        by_cases w : i = evH cs k - 1
        · rw [w, up_s, uI_s]
        · rw [up_F (by omega), uI_n w]; exact j2 i hi
      · dsimp only
        rw [hh]
        by_cases w : evS cs nm k (evH cs k - 1) = nI 0 <;> simp (disch := omega) only [e_Text_workOut_2, e_Text_workOut_9, e_Text_workOut_10, e_Text_workOut_12, e_Text_workOut_13, e_Text_workOut_14, e_Text_workOut_15, e_Text_workOut_20, e_Text_workOut_1 (x3 := nI k), lit, nad, nml, bd_s, ct_s, ct_n, a11, a01, aB2, bitA, nlt, nle, neq, dlT, dlF, deT, deF, dqT, dqF, nN, inb, nsb, ndv, nrm, if_true, if_false, ite_true, ite_false, true_and, and_true, and_self, and_false, false_and, or_true, true_or, or_false, false_or, or_self, ↓reduceIte, eq_self, Nat.reduceAdd, Nat.reduceMul, Nat.reduceSub, Nat.reduceDiv, Nat.reduceMod, Nat.zero_add, Nat.mul_zero, not_true_eq_false, not_false_eq_true, up_T, up_F, wr_T, wr_F, ngE, ngE', ngL, ngL', ngQ, ngQ', l1, l2, l3, e, w]
    · have h0 := k3 e
      obtain ⟨g1, g2, g3⟩ := op_ge e
      have hh : evH cs (k + 1) = evH cs k - 1 := by rw [evH, if_neg g1, if_neg g2]
      have hs : evS cs nm (k + 1) = uI (evS cs nm k) (evH cs k - 2) (jo (cs k) (evS cs nm k (evH cs k - 2)) (evS cs nm k (evH cs k - 1))) := by rw [evS, if_neg g1, if_neg g2]
      have l3 := j2 (evH cs k - 1) (by omega)
      have l4 := j2 (evH cs k - 2) (by omega)
      have jn := s_Text_join d (cs k) (evS cs nm k (evH cs k - 2)) (evS cs nm k (evH cs k - 1)) J e
      have q1 : evH cs k - 1 - 1 = evH cs k - 2 := by omega
      refine ⟨(mm_up J 39 r (evH cs k - 2) (jo (cs k) (evS cs nm k (evH cs k - 2)) (evS cs nm k (evH cs k - 1))), some (.inl (nI (cs k)))), ⟨eqo_up j1 (by decide), fun i hi => ?_⟩, ?_⟩
      · dsimp only
        rw [hh] at hi
        rw [hs]
        by_cases w : i = evH cs k - 2
        · rw [w, up_s, uI_s]
        · rw [up_F (by omega), uI_n w]; exact j2 i (by omega)
      · dsimp only
        rw [hh]
        have hx := x_work_18 (d + 1) r (evH cs k) k (cs k) J h0 (by omega) (by omega) (by omega) _ (by rw [l3, l4]; exact jn)
        simp (disch := omega) only [e_Text_workOut_2, e_Text_workOut_9, e_Text_workOut_16, e_Text_workOut_20, e_Text_workOut_1 (x3 := nI k), lit, nad, nml, bd_s, ct_s, ct_n, a11, a01, aB2, bitA, nlt, nle, neq, dlT, dlF, deT, deF, dqT, dqF, nN, inb, nsb, ndv, nrm, if_true, if_false, ite_true, ite_false, true_and, and_true, and_self, and_false, false_and, or_true, true_or, or_false, false_or, or_self, ↓reduceIte, eq_self, Nat.reduceAdd, Nat.reduceMul, Nat.reduceSub, Nat.reduceDiv, Nat.reduceMod, Nat.zero_add, Nat.mul_zero, not_true_eq_false, not_false_eq_true, up_T, up_F, wr_T, wr_F, ngE, ngE', ngL, ngL', ngQ, ngQ', l1, l2, hx]
  · rintro ⟨J, v⟩ ⟨j1, j2⟩
    dsimp only at j1 j2 ⊢
    have l1 : J 9 r 4 = nI n := by rw [j1 9 (by decide)]; exact hl
    have l3 := j2 0 (by rw [ok.1]; decide)
    refine ⟨J, ?_, j1⟩
    rw [ok.1]
    simp (disch := omega) only [e_Text_workOut_1, e_Text_workOut_21, e_Text_workOut_22, e_Text_workOut_24, lit, nad, nml, bd_s, ct_s, ct_n, a11, a01, aB2, bitA, nlt, nle, neq, dlT, dlF, deT, deF, dqT, dqF, nN, inb, nsb, ndv, nrm, if_true, if_false, ite_true, ite_false, true_and, and_true, and_self, and_false, false_and, or_true, true_or, or_false, false_or, or_self, ↓reduceIte, eq_self, Nat.reduceAdd, Nat.reduceMul, Nat.reduceSub, Nat.reduceDiv, Nat.reduceMod, Nat.zero_add, Nat.mul_zero, not_true_eq_false, not_false_eq_true, up_T, up_F, wr_T, wr_F, ngE, ngE', ngL, ngL', ngQ, ngQ', l1, l3]
theorem s_M_worksOut (d r n b : Nat) (cs : Nat → Nat) (nm : Nat → Int32) (I : mm_I) (hl : I 47 0 (541 + 4 * r) = nI (1000 * b + n)) (hr : r < 14) (hb : b ≤ 3) (hn : n ≤ 96) (hc : ∀ k, k < n → I 47 0 (597 + 96 * r + k) = dcR (cs k)) (hnm : ∀ i, i < 3 → I 57 0 i = nm i) (ok : okH cs n) : ∃ I', Sn (d + 2) q_M_worksOut [.inr (12, 0), .inl (nI r)] I = some (some (.inl (evS cs nm n 0)), (sh0, I')) ∧ eqo [56] I I' := by
  have k0 : Sn (d + 2) q_M_worksOut [.inr (12, 0), .inl (nI r)] I = Rn (d + 1) q_M_worksOut 1 [some (.inr (12, 0)), some (.inl (nI r)), some (.inl (nI 0)), some (.inl (nI n)), some (.inl (nI 0)), none] [] I := by
    have hm : 1000 * b + n - (1000 * b + n) / 1000 * 1000 = n := by omega
    simp (disch := omega) only [n_M_worksOut, e_M_worksOut_0, lit, nad, nml, bd_s, ct_s, ct_n, a11, a01, aB2, bitA, nlt, nle, neq, dlT, dlF, deT, deF, dqT, dqF, nN, inb, nsb, ndv, nrm, if_true, if_false, ite_true, ite_false, true_and, and_true, and_self, and_false, false_and, or_true, true_or, or_false, false_or, or_self, ↓reduceIte, eq_self, Nat.reduceAdd, Nat.reduceMul, Nat.reduceSub, Nat.reduceDiv, Nat.reduceMod, Nat.zero_add, Nat.mul_zero, not_true_eq_false, not_false_eq_true, up_T, up_F, wr_T, wr_F, ngE, ngE', ngL, ngL', ngQ, ngQ', hl, hm]
  rw [k0]
  refine lpX (n := n) (σ := mm_I × Option mm_V) (fun k s => Rn (d + 1) q_M_worksOut 1 [some (.inr (12, 0)), some (.inl (nI r)), some (.inl (nI (evH cs k))), some (.inl (nI n)), some (.inl (nI k)), s.2] [] s.1) (fun k s => eqo [56] I s.1 ∧ ∀ i, i < evH cs k → s.1 56 0 i = evS cs nm k i) (fun q => ∃ I', q = some (some (.inl (evS cs nm n 0)), (sh0, I')) ∧ eqo [56] I I') ?_ ?_ 0 (I, none) (Nat.zero_le _) ⟨eqo_rf _ _, fun i hi => by exact absurd hi (Nat.not_lt_zero _)⟩
  · rintro k ⟨J, v⟩ hk ⟨j1, j2⟩
    dsimp only at j1 j2 ⊢
    have l2 : J 47 0 (597 + 96 * r + k) = dcR (cs k) := by rw [j1 47 (by decide)]; exact hc k hk
    have hle := evH_le cs k
    obtain ⟨k1, k2, k3⟩ := ok.2 k hk
    right
    rcases okC_op k1 with e | e | e
    · rw [dcR_n (by omega)] at l2
      have hh : evH cs (k + 1) = evH cs k + 1 := by rw [evH, if_pos (by omega)]
      have hs : evS cs nm (k + 1) = uI (evS cs nm k) (evH cs k) (if cs k < 10000 then nI (cs k) else nm (cs k - 10000)) := by rw [evS, if_pos (by omega)]
      refine ⟨(mm_up J 56 0 (evH cs k) (if cs k < 10000 then nI (cs k) else nm (cs k - 10000)), some (.inl (nI (cs k)))), ⟨eqo_up j1 (by decide), fun i hi => ?_⟩, ?_⟩
      · dsimp only
        rw [hs]
        by_cases w : i = evH cs k
        · rw [w, up_s, uI_s]
        · rw [up_F (by omega), uI_n w]; exact j2 i (by omega)
      · dsimp only
        rw [hh]
        by_cases w : cs k < 10000
        · simp (disch := omega) only [e_M_worksOut_2, e_M_worksOut_3, e_M_worksOut_4, e_M_worksOut_6, e_M_worksOut_14, e_M_worksOut_1 (x4 := nI k), lit, nad, nml, bd_s, ct_s, ct_n, a11, a01, aB2, bitA, nlt, nle, neq, dlT, dlF, deT, deF, dqT, dqF, nN, inb, nsb, ndv, nrm, if_true, if_false, ite_true, ite_false, true_and, and_true, and_self, and_false, false_and, or_true, true_or, or_false, false_or, or_self, ↓reduceIte, eq_self, Nat.reduceAdd, Nat.reduceMul, Nat.reduceSub, Nat.reduceDiv, Nat.reduceMod, Nat.zero_add, Nat.mul_zero, not_true_eq_false, not_false_eq_true, up_T, up_F, wr_T, wr_F, ngE, ngE', ngL, ngL', ngQ, ngQ', l2]
        · have l3 : J 57 0 (cs k - 10000) = nm (cs k - 10000) := by rw [j1 57 (by decide)]; exact hnm _ (by omega)
          simp (disch := omega) only [e_M_worksOut_2, e_M_worksOut_3, e_M_worksOut_5, e_M_worksOut_6, e_M_worksOut_14, e_M_worksOut_1 (x4 := nI k), lit, nad, nml, bd_s, ct_s, ct_n, a11, a01, aB2, bitA, nlt, nle, neq, dlT, dlF, deT, deF, dqT, dqF, nN, inb, nsb, ndv, nrm, if_true, if_false, ite_true, ite_false, true_and, and_true, and_self, and_false, false_and, or_true, true_or, or_false, false_or, or_self, ↓reduceIte, eq_self, Nat.reduceAdd, Nat.reduceMul, Nat.reduceSub, Nat.reduceDiv, Nat.reduceMod, Nat.zero_add, Nat.mul_zero, not_true_eq_false, not_false_eq_true, up_T, up_F, wr_T, wr_F, ngE, ngE', ngL, ngL', ngQ, ngQ', l2, l3]
    · have h0 := k2 e
      rw [e, dcR_x] at l2
      have hh : evH cs (k + 1) = evH cs k := by rw [evH, if_neg (by omega), if_pos e]
      have hs : evS cs nm (k + 1) = uI (evS cs nm k) (evH cs k - 1) (if evS cs nm k (evH cs k - 1) = nI 0 then nI 1 else nI 0) := by rw [evS, if_neg (by omega), if_pos e]
      have l3 := j2 (evH cs k - 1) (by omega)
      have hq : (-nI 10 < nI 0) = True := ngL' (by decide) (by decide) (by decide)
      refine ⟨(mm_up J 56 0 (evH cs k - 1) (if evS cs nm k (evH cs k - 1) = nI 0 then nI 1 else nI 0), some (.inl (-nI 10))), ⟨eqo_up j1 (by decide), fun i hi => ?_⟩, ?_⟩
      · dsimp only
        rw [hh] at hi
        rw [hs]
        by_cases w : i = evH cs k - 1
        · rw [w, up_s, uI_s]
        · rw [up_F (by omega), uI_n w]; exact j2 i hi
      · dsimp only
        rw [hh]
        by_cases w : evS cs nm k (evH cs k - 1) = nI 0 <;> simp (disch := omega) only [e_M_worksOut_2, e_M_worksOut_7, e_M_worksOut_8, e_M_worksOut_9, e_M_worksOut_10, e_M_worksOut_11, e_M_worksOut_14, e_M_worksOut_1 (x4 := nI k), lit, nad, nml, bd_s, ct_s, ct_n, a11, a01, aB2, bitA, nlt, nle, neq, dlT, dlF, deT, deF, dqT, dqF, nN, inb, nsb, ndv, nrm, if_true, if_false, ite_true, ite_false, true_and, and_true, and_self, and_false, false_and, or_true, true_or, or_false, false_or, or_self, ↓reduceIte, eq_self, Nat.reduceAdd, Nat.reduceMul, Nat.reduceSub, Nat.reduceDiv, Nat.reduceMod, Nat.zero_add, Nat.mul_zero, not_true_eq_false, not_false_eq_true, up_T, up_F, wr_T, wr_F, ngE, ngE', ngL, ngL', ngQ, ngQ', l2, l3, hq, w]
    · have h0 := k3 e
      obtain ⟨g1, g2, g3⟩ := op_ge e
      obtain ⟨c1, c2, c3⟩ := dcR_o e
      have jn := s_M_two d (cs k) (evS cs nm k (evH cs k - 2)) (evS cs nm k (evH cs k - 1)) J e
      rw [c1] at l2 jn
      have hh : evH cs (k + 1) = evH cs k - 1 := by rw [evH, if_neg g1, if_neg g2]
      have hs : evS cs nm (k + 1) = uI (evS cs nm k) (evH cs k - 2) (jo (cs k) (evS cs nm k (evH cs k - 2)) (evS cs nm k (evH cs k - 1))) := by rw [evS, if_neg g1, if_neg g2]
      have l3 := j2 (evH cs k - 1) (by omega)
      have l4 := j2 (evH cs k - 2) (by omega)
      have q1 : evH cs k - 1 - 1 = evH cs k - 2 := by omega
      have hq : (-nI (ngC (cs k)) < nI 0) = True := ngL' (by decide) (by omega) (by omega)
      have hq2 : (-nI (ngC (cs k)) = -nI 10) = False := ngN (by omega) (by omega) (by decide)
      refine ⟨(mm_up J 56 0 (evH cs k - 2) (jo (cs k) (evS cs nm k (evH cs k - 2)) (evS cs nm k (evH cs k - 1))), some (.inl (-nI (ngC (cs k))))), ⟨eqo_up j1 (by decide), fun i hi => ?_⟩, ?_⟩
      · dsimp only
        rw [hh] at hi
        rw [hs]
        by_cases w : i = evH cs k - 2
        · rw [w, up_s, uI_s]
        · rw [up_F (by omega), uI_n w]; exact j2 i (by omega)
      · dsimp only
        rw [hh]
        have hx := x_M_work_12 (d + 1) r n (evH cs k) k (-nI (ngC (cs k))) J h0 (by omega) _ (by rw [l3, l4]; exact jn)
        simp (disch := omega) only [e_M_worksOut_2, e_M_worksOut_7, e_M_worksOut_14, e_M_worksOut_1 (x4 := nI k), lit, nad, nml, bd_s, ct_s, ct_n, a11, a01, aB2, bitA, nlt, nle, neq, dlT, dlF, deT, deF, dqT, dqF, nN, inb, nsb, ndv, nrm, if_true, if_false, ite_true, ite_false, true_and, and_true, and_self, and_false, false_and, or_true, true_or, or_false, false_or, or_self, ↓reduceIte, eq_self, Nat.reduceAdd, Nat.reduceMul, Nat.reduceSub, Nat.reduceDiv, Nat.reduceMod, Nat.zero_add, Nat.mul_zero, not_true_eq_false, not_false_eq_true, up_T, up_F, wr_T, wr_F, ngE, ngE', ngL, ngL', ngQ, ngQ', l2, hx, hq, hq2]
  · rintro ⟨J, v⟩ ⟨j1, j2⟩
    dsimp only at j1 j2 ⊢
    have l3 := j2 0 (by rw [ok.1]; decide)
    refine ⟨J, ?_, j1⟩
    rw [ok.1]
    simp (disch := omega) only [e_M_worksOut_1, e_M_worksOut_15, lit, nad, nml, bd_s, ct_s, ct_n, a11, a01, aB2, bitA, nlt, nle, neq, dlT, dlF, deT, deF, dqT, dqF, nN, inb, nsb, ndv, nrm, if_true, if_false, ite_true, ite_false, true_and, and_true, and_self, and_false, false_and, or_true, true_or, or_false, false_or, or_self, ↓reduceIte, eq_self, Nat.reduceAdd, Nat.reduceMul, Nat.reduceSub, Nat.reduceDiv, Nat.reduceMod, Nat.zero_add, Nat.mul_zero, not_true_eq_false, not_false_eq_true, up_T, up_F, wr_T, wr_F, ngE, ngE', ngL, ngL', ngQ, ngQ', l3]
