/-! The class's words. -/
theorem upid {I : mm_I} {k i j : Nat} {x : Int32} (h : I k i j = x) : mm_up I k i j x = I := by
  funext a b c
  unfold mm_up
  split
  · rename_i e; rw [e.1, e.2.1, e.2.2]; exact h.symm
  · rfl
theorem upup (I : mm_I) (k i j : Nat) (x y : Int32) : mm_up (mm_up I k i j x) k i j y = mm_up I k i j y := by
  funext a b c
  unfold mm_up
  split <;> rfl
theorem s_sortOf (d b : Nat) (I : mm_I) (h : b ≤ 255) : Sn (d + 1) q_Reader_sortOf [.inl (nI b)] I = some (some (.inl (nI (sof b))), (sh0, I)) := by
  unfold sof
  by_cases e : 97 ≤ b ∧ b ≤ 122
  · rw [if_pos e]
    simp (disch := omega) only [n_Reader_sortOf, e_Reader_sortOf_0, e_Reader_sortOf_1, e_Reader_sortOf_2, e_Reader_sortOf_3, e_Reader_sortOf_4, e_Reader_sortOf_5, e_Reader_sortOf_6, lit, nad, nml, bd_s, ct_s, ct_n, a11, a01, aB2, bitA, nlt, nle, neq, dlT, dlF, deT, deF, dqT, dqF, nN, inb, nsb, ndv, nrm, if_true, if_false, ite_true, ite_false, true_and, and_true, and_self, and_false, false_and, or_true, true_or, or_false, false_or, or_self, ↓reduceIte, eq_self, Nat.reduceAdd, Nat.reduceMul, Nat.reduceSub, Nat.reduceDiv, Nat.reduceMod, Nat.zero_add, Nat.mul_zero, not_true_eq_false, not_false_eq_true, up_T, up_F, wr_T, wr_F, ngE, ngE', ngL, ngL', ngQ, ngQ']
  · rw [if_neg e]
    by_cases e2 : 48 ≤ b ∧ b ≤ 57
    · rw [if_pos e2]
      simp (disch := omega) only [n_Reader_sortOf, e_Reader_sortOf_0, e_Reader_sortOf_1, e_Reader_sortOf_2, e_Reader_sortOf_3, e_Reader_sortOf_4, e_Reader_sortOf_5, e_Reader_sortOf_6, lit, nad, nml, bd_s, ct_s, ct_n, a11, a01, aB2, bitA, nlt, nle, neq, dlT, dlF, deT, deF, dqT, dqF, nN, inb, nsb, ndv, nrm, if_true, if_false, ite_true, ite_false, true_and, and_true, and_self, and_false, false_and, or_true, true_or, or_false, false_or, or_self, ↓reduceIte, eq_self, Nat.reduceAdd, Nat.reduceMul, Nat.reduceSub, Nat.reduceDiv, Nat.reduceMod, Nat.zero_add, Nat.mul_zero, not_true_eq_false, not_false_eq_true, up_T, up_F, wr_T, wr_F, ngE, ngE', ngL, ngL', ngQ, ngQ']
    · rw [if_neg e2]
      by_cases e3 : b < 48
      · simp (disch := omega) only [n_Reader_sortOf, e_Reader_sortOf_0, e_Reader_sortOf_1, e_Reader_sortOf_2, e_Reader_sortOf_3, e_Reader_sortOf_4, e_Reader_sortOf_5, e_Reader_sortOf_6, lit, nad, nml, bd_s, ct_s, ct_n, a11, a01, aB2, bitA, nlt, nle, neq, dlT, dlF, deT, deF, dqT, dqF, nN, inb, nsb, ndv, nrm, if_true, if_false, ite_true, ite_false, true_and, and_true, and_self, and_false, false_and, or_true, true_or, or_false, false_or, or_self, ↓reduceIte, eq_self, Nat.reduceAdd, Nat.reduceMul, Nat.reduceSub, Nat.reduceDiv, Nat.reduceMod, Nat.zero_add, Nat.mul_zero, not_true_eq_false, not_false_eq_true, up_T, up_F, wr_T, wr_F, ngE, ngE', ngL, ngL', ngQ, ngQ']
      · by_cases e4 : b < 97
        · simp (disch := omega) only [n_Reader_sortOf, e_Reader_sortOf_0, e_Reader_sortOf_1, e_Reader_sortOf_2, e_Reader_sortOf_3, e_Reader_sortOf_4, e_Reader_sortOf_5, e_Reader_sortOf_6, lit, nad, nml, bd_s, ct_s, ct_n, a11, a01, aB2, bitA, nlt, nle, neq, dlT, dlF, deT, deF, dqT, dqF, nN, inb, nsb, ndv, nrm, if_true, if_false, ite_true, ite_false, true_and, and_true, and_self, and_false, false_and, or_true, true_or, or_false, false_or, or_self, ↓reduceIte, eq_self, Nat.reduceAdd, Nat.reduceMul, Nat.reduceSub, Nat.reduceDiv, Nat.reduceMod, Nat.zero_add, Nat.mul_zero, not_true_eq_false, not_false_eq_true, up_T, up_F, wr_T, wr_F, ngE, ngE', ngL, ngL', ngQ, ngQ']
        · simp (disch := omega) only [n_Reader_sortOf, e_Reader_sortOf_0, e_Reader_sortOf_1, e_Reader_sortOf_2, e_Reader_sortOf_3, e_Reader_sortOf_4, e_Reader_sortOf_5, e_Reader_sortOf_6, lit, nad, nml, bd_s, ct_s, ct_n, a11, a01, aB2, bitA, nlt, nle, neq, dlT, dlF, deT, deF, dqT, dqF, nN, inb, nsb, ndv, nrm, if_true, if_false, ite_true, ite_false, true_and, and_true, and_self, and_false, false_and, or_true, true_or, or_false, false_or, or_self, ↓reduceIte, eq_self, Nat.reduceAdd, Nat.reduceMul, Nat.reduceSub, Nat.reduceDiv, Nat.reduceMod, Nat.zero_add, Nat.mul_zero, not_true_eq_false, not_false_eq_true, up_T, up_F, wr_T, wr_F, ngE, ngE', ngL, ngL', ngQ, ngQ']
def TC (T : Nat → Nat) (n : Nat) (I : mm_I) : Prop := n ≤ 96 ∧ I 5 0 1 = nI n ∧ ∀ p, p < n → T p ≤ 255 ∧ I 29 0 p = nI (T p)
theorem TC_u {T : Nat → Nat} {n j : Nat} {x : Int32} {I : mm_I} (h : TC T n I) (hj : j ≠ 1) : TC T n (mm_up I 5 0 j x) := ⟨h.1, by rw [up_F (by omega)]; exact h.2.1, fun p hp => ⟨(h.2.2 p hp).1, by rw [up_F (by omega)]; exact (h.2.2 p hp).2⟩⟩
theorem s_st5 (d n : Nat) (T : Nat → Nat) (x1 x2 : Int32) (v3 : Option mm_V) : ∀ k a (I : mm_I), a + k = n → TC T n I → I 5 0 7 = nI a → Rn d q_Reader_step 5 [some (.inr (5, 0)), some (.inl x1), some (.inl x2), v3] [] I = Rn d q_Reader_step 8 [some (.inr (5, 0)), some (.inl x1), some (.inl x2), v3] [] (mm_up I 5 0 7 (nI (sk (bkP T) k a))) := by
  intro k
  induction k with
  | zero =>
    intro a I ha hT h7
    have hn := hT.1
    rw [show sk (bkP T) 0 a = a from rfl, upid h7, e_Reader_step_5, h7, hT.2.1, if_neg (by rw [nlt (by omega) (by omega)]; omega)]
  | succ k ih =>
    intro a I ha hT h7
    have hn := hT.1
    obtain ⟨hb, l29⟩ := hT.2.2 a (by omega)
    have st : Rn d q_Reader_step 5 [some (.inr (5, 0)), some (.inl x1), some (.inl x2), v3] [] I = if T a = 32 then Rn d q_Reader_step 7 [some (.inr (5, 0)), some (.inl x1), some (.inl x2), v3] [] I else Rn d q_Reader_step 8 [some (.inr (5, 0)), some (.inl x1), some (.inl x2), v3] [] I := by
      rw [e_Reader_step_5, h7, hT.2.1, if_pos (by rw [nlt (by omega) (by omega)]; omega), e_Reader_step_6, h7, if_pos (by rw [nI_toInt (by omega)]; omega), nN (by omega), l29]
      by_cases e : T a = 32
      · rw [if_pos e, if_pos (by rw [e]; rfl)]
      · rw [if_neg e, if_neg (by rw [show (32 : Int32) = nI 32 from rfl, neq (by omega) (by omega)]; exact e)]
    rw [st, sk]
    by_cases e : T a = 32
    · rw [if_pos e, if_pos (show bkP T a = true by unfold bkP; rw [e]; rfl), e_Reader_step_7, h7, show nI a + (1 : Int32) = nI (a + 1) from nad a 1, ih (a + 1) _ (by omega) (TC_u hT (by decide)) (up_s _ _ _ _ _), upup]
    · rw [if_neg e, if_neg (show ¬ bkP T a = true by unfold bkP; simpa using e), upid h7]
theorem s_st13 (d n f : Nat) (T : Nat → Nat) (x1 x2 : Int32) (hf : f ≤ 259) : ∀ k a (I : mm_I), a + k = n → TC T n I → I 5 0 8 = nI a → Rn (d + 1) q_Reader_step 13 [some (.inr (5, 0)), some (.inl x1), some (.inl x2), some (.inl (nI f))] [] I = Rn (d + 1) q_Reader_step 17 [some (.inr (5, 0)), some (.inl x1), some (.inl x2), some (.inl (nI f))] [] (mm_up I 5 0 8 (nI (sk (wdP T f) k a))) := by
  intro k
  induction k with
  | zero =>
    intro a I ha hT h7
    have hn := hT.1
    rw [show sk (wdP T f) 0 a = a from rfl, upid h7, e_Reader_step_13, h7, hT.2.1, if_neg (by rw [nlt (by omega) (by omega)]; omega)]
  | succ k ih =>
    intro a I ha hT h7
    have hn := hT.1
    obtain ⟨hb, l29⟩ := hT.2.2 a (by omega)
    have hs := sof_b hb
    have st : Rn (d + 1) q_Reader_step 13 [some (.inr (5, 0)), some (.inl x1), some (.inl x2), some (.inl (nI f))] [] I = if sof (T a) = f then Rn (d + 1) q_Reader_step 16 [some (.inr (5, 0)), some (.inl x1), some (.inl x2), some (.inl (nI f))] [] I else Rn (d + 1) q_Reader_step 17 [some (.inr (5, 0)), some (.inl x1), some (.inl x2), some (.inl (nI f))] [] I := by
      rw [e_Reader_step_13, h7, hT.2.1, if_pos (by rw [nlt (by omega) (by omega)]; omega), e_Reader_step_14, h7, if_pos (by rw [nI_toInt (by omega)]; omega), nN (by omega), l29, s_sortOf _ _ _ hb, bd_s, ct_s]
      refine (e_Reader_step_15 (d + 1) x1 x2 (nI f) _ I).trans ?_
      by_cases e : sof (T a) = f
      · rw [if_pos e, if_pos (by rw [e])]
      · rw [if_neg e, if_neg (by rw [neq (by omega) (by omega)]; exact e)]
    rw [st, sk]
    by_cases e : sof (T a) = f
    · rw [if_pos e, if_pos (show wdP T f a = true by unfold wdP; rw [e]; exact beq_self_eq_true _), e_Reader_step_16, h7, show nI a + (1 : Int32) = nI (a + 1) from nad a 1, ih (a + 1) _ (by omega) (TC_u hT (by decide)) (up_s _ _ _ _ _), upup]
    · rw [if_neg e, if_neg (show ¬ wdP T f a = true by unfold wdP; simpa using e), upid h7]
def LC (x : LX) (I : mm_I) : Prop := I 5 0 6 = nI x.1 ∧ I 5 0 7 = nI x.2.1 ∧ I 5 0 8 = nI x.2.2
def f678 (I I' : mm_I) : Prop := eqo [5] I I' ∧ ∀ j, j ≠ 6 → j ≠ 7 → j ≠ 8 → I' 5 0 j = I 5 0 j
theorem f678_u {I I' : mm_I} {j : Nat} {x : Int32} (h : f678 I I') (hj : j = 6 ∨ j = 7 ∨ j = 8) : f678 I (mm_up I' 5 0 j x) := ⟨eqo_up h.1 (by decide), fun i h1 h2 h3 => by rw [up_F (by omega)]; exact h.2 i h1 h2 h3⟩
theorem s_step (d n : Nat) (T : Nat → Nat) (x : LX) (I : mm_I) (hT : TC T n I) (h6 : I 5 0 6 = nI x.1) (h8 : I 5 0 8 = nI x.2.2) (he : x.2.2 ≤ n) (hx : x.1 ≤ 259) : ∃ I', Sn (d + 2) q_Reader_step [.inr (5, 0)] I = some (none, (sh0, I')) ∧ LC (nxT T n x) I' ∧ f678 I I' := by
  have hn := hT.1
  have f0 : f678 I I := ⟨eqo_rf _ _, fun _ _ _ _ => rfl⟩
  have w0 : ∃ w, (w = 1 ↔ (x.1 = 257 ∨ x.1 = 258)) ∧ (w = 0 ∨ w = 1) ∧ Sn (d + 2) q_Reader_step [.inr (5, 0)] I = Rn (d + 1) q_Reader_step 5 [some (.inr (5, 0)), some (.inl (nI w)), some (.inl (nI (x.2.2))), none] [] (mm_up I 5 0 7 (nI x.2.2)) := by
    by_cases e : x.1 = 257
    · refine ⟨1, by omega, by omega, ?_⟩
      simp (disch := omega) only [n_Reader_step, e_Reader_step_0, e_Reader_step_1, e_Reader_step_2, e_Reader_step_3, e_Reader_step_4, lit, nad, nml, bd_s, ct_s, ct_n, a11, a01, aB2, bitA, nlt, nle, neq, dlT, dlF, deT, deF, dqT, dqF, nN, inb, nsb, ndv, nrm, if_true, if_false, ite_true, ite_false, true_and, and_true, and_self, and_false, false_and, or_true, true_or, or_false, false_or, or_self, ↓reduceIte, eq_self, Nat.reduceAdd, Nat.reduceMul, Nat.reduceSub, Nat.reduceDiv, Nat.reduceMod, Nat.zero_add, Nat.mul_zero, not_true_eq_false, not_false_eq_true, up_T, up_F, wr_T, wr_F, ngE, ngE', ngL, ngL', ngQ, ngQ', h6, h8]
    · by_cases e2 : x.1 = 258
      · refine ⟨1, by omega, by omega, ?_⟩
        simp (disch := omega) only [n_Reader_step, e_Reader_step_0, e_Reader_step_1, e_Reader_step_2, e_Reader_step_3, e_Reader_step_4, lit, nad, nml, bd_s, ct_s, ct_n, a11, a01, aB2, bitA, nlt, nle, neq, dlT, dlF, deT, deF, dqT, dqF, nN, inb, nsb, ndv, nrm, if_true, if_false, ite_true, ite_false, true_and, and_true, and_self, and_false, false_and, or_true, true_or, or_false, false_or, or_self, ↓reduceIte, eq_self, Nat.reduceAdd, Nat.reduceMul, Nat.reduceSub, Nat.reduceDiv, Nat.reduceMod, Nat.zero_add, Nat.mul_zero, not_true_eq_false, not_false_eq_true, up_T, up_F, wr_T, wr_F, ngE, ngE', ngL, ngL', ngQ, ngQ', h6, h8]
      · refine ⟨0, by omega, by omega, ?_⟩
        simp (disch := omega) only [n_Reader_step, e_Reader_step_0, e_Reader_step_1, e_Reader_step_2, e_Reader_step_3, e_Reader_step_4, lit, nad, nml, bd_s, ct_s, ct_n, a11, a01, aB2, bitA, nlt, nle, neq, dlT, dlF, deT, deF, dqT, dqF, nN, inb, nsb, ndv, nrm, if_true, if_false, ite_true, ite_false, true_and, and_true, and_self, and_false, false_and, or_true, true_or, or_false, false_or, or_self, ↓reduceIte, eq_self, Nat.reduceAdd, Nat.reduceMul, Nat.reduceSub, Nat.reduceDiv, Nat.reduceMod, Nat.zero_add, Nat.mul_zero, not_true_eq_false, not_false_eq_true, up_T, up_F, wr_T, wr_F, ngE, ngE', ngL, ngL', ngQ, ngQ', h6, h8]
  obtain ⟨w, w1, w2, w3⟩ := w0
  have hs := sk_b (bkP T) (n - x.2.2) x.2.2
  rw [w3, s_st5 (d + 1) n T (nI w) (nI x.2.2) none (n - x.2.2) x.2.2 _ (by omega) (TC_u hT (by decide)) (up_s _ _ _ _ _), upup]
  unfold nxT
  generalize hS : sk (bkP T) (n - x.2.2) x.2.2 = s at *
  have l1 : I 5 0 1 = nI n := hT.2.1
  by_cases e : s < n
  rotate_left
  · rw [if_neg e]
    refine ⟨mm_up (mm_up (mm_up I 5 0 7 (nI s)) 5 0 8 (nI s)) 5 0 6 (nI 256), ?_, ⟨by rw [up_s], by rw [up_F (by omega), up_F (by omega), up_s], by rw [up_F (by omega), up_s]⟩, f678_u (f678_u (f678_u f0 (by omega)) (by omega)) (by omega)⟩
    simp (disch := omega) only [e_Reader_step_8, e_Reader_step_9, lit, nad, nml, bd_s, ct_s, ct_n, a11, a01, aB2, bitA, nlt, nle, neq, dlT, dlF, deT, deF, dqT, dqF, nN, inb, nsb, ndv, nrm, if_true, if_false, ite_true, ite_false, true_and, and_true, and_self, and_false, false_and, or_true, true_or, or_false, false_or, or_self, ↓reduceIte, eq_self, Nat.reduceAdd, Nat.reduceMul, Nat.reduceSub, Nat.reduceDiv, Nat.reduceMod, Nat.zero_add, Nat.mul_zero, not_true_eq_false, not_false_eq_true, up_T, up_F, wr_T, wr_F, ngE, ngE', ngL, ngL', ngQ, ngQ', l1]
  · rw [if_pos e]
    obtain ⟨hb, l29⟩ := hT.2.2 s e
    have hf := sof_b hb
    have so := s_sortOf d (T s)
    have st : Rn (d + 1) q_Reader_step 8 [some (.inr (5, 0)), some (.inl (nI w)), some (.inl (nI (x.2.2))), none] [] (mm_up I 5 0 7 (nI s)) = Rn (d + 1) q_Reader_step 11 [some (.inr (5, 0)), some (.inl (nI w)), some (.inl (nI (x.2.2))), none] [.inl (nI (sof (T s)))] (mm_up (mm_up I 5 0 7 (nI s)) 5 0 8 (nI s)) := by
      simp (disch := omega) only [e_Reader_step_8, e_Reader_step_10, lit, nad, nml, bd_s, ct_s, ct_n, a11, a01, aB2, bitA, nlt, nle, neq, dlT, dlF, deT, deF, dqT, dqF, nN, inb, nsb, ndv, nrm, if_true, if_false, ite_true, ite_false, true_and, and_true, and_self, and_false, false_and, or_true, true_or, or_false, false_or, or_self, ↓reduceIte, eq_self, Nat.reduceAdd, Nat.reduceMul, Nat.reduceSub, Nat.reduceDiv, Nat.reduceMod, Nat.zero_add, Nat.mul_zero, not_true_eq_false, not_false_eq_true, up_T, up_F, wr_T, wr_F, ngE, ngE', ngL, ngL', ngQ, ngQ', l1, l29, so]
    have i8 : nI s + (1 : Int32) = nI (s + 1) := nad s 1
    have h7' : mm_up (mm_up I 5 0 7 (nI s)) 5 0 8 (nI s) 5 0 7 = nI s := by rw [up_F (by omega), up_s]
    rw [st]
    by_cases e2 : sof (T s) = 257 ∨ sof (T s) = 258
    rotate_left
    · rw [if_neg e2]
      refine ⟨mm_up (mm_up (mm_up I 5 0 7 (nI s)) 5 0 8 (nI (s + 1))) 5 0 6 (nI (sof (T s))), ?_, ⟨by rw [up_s], by rw [up_F (by omega), up_F (by omega), up_s], by rw [up_F (by omega), up_s]⟩, f678_u (f678_u (f678_u f0 (by omega)) (by omega)) (by omega)⟩
      rw [e_Reader_step_11, h7', i8, upup, if_neg (by rw [show (257 : Int32) = nI 257 from rfl, neq (by omega) (by omega)]; omega), e_Reader_step_12, if_neg (by rw [show (258 : Int32) = nI 258 from rfl, neq (by omega) (by omega)]; omega), e_Reader_step_22, e_Reader_step_23]
    · rw [if_pos e2]
      have t13 : Rn (d + 1) q_Reader_step 11 [some (.inr (5, 0)), some (.inl (nI w)), some (.inl (nI (x.2.2))), none] [.inl (nI (sof (T s)))] (mm_up (mm_up I 5 0 7 (nI s)) 5 0 8 (nI s)) = Rn (d + 1) q_Reader_step 13 [some (.inr (5, 0)), some (.inl (nI w)), some (.inl (nI (x.2.2))), some (.inl (nI (sof (T s))))] [] (mm_up (mm_up I 5 0 7 (nI s)) 5 0 8 (nI (s + 1))) := by
        rw [e_Reader_step_11, h7', i8, upup]
        by_cases e3 : sof (T s) = 257
        · rw [if_pos (by rw [e3]; rfl)]
        · rw [if_neg (by rw [show (257 : Int32) = nI 257 from rfl, neq (by omega) (by omega)]; exact e3), e_Reader_step_12, if_pos (by rw [show sof (T s) = 258 by omega]; rfl)]
      rw [t13, s_st13 d n (sof (T s)) T (nI w) (nI x.2.2) (by omega) (n - (s + 1)) (s + 1) _ (by omega) (TC_u (TC_u hT (by decide)) (by decide)) (up_s _ _ _ _ _), upup]
      generalize sk (wdP T (sof (T s))) (n - (s + 1)) (s + 1) = en
      have t7 : mm_up (mm_up I 5 0 7 (nI s)) 5 0 8 (nI en) 5 0 7 = nI s := by rw [up_F (by omega), up_s]
      by_cases e4 : (x.1 = 257 ∨ x.1 = 258) ∧ s = x.2.2
      · rw [if_pos e4]
        refine ⟨mm_up (mm_up (mm_up I 5 0 7 (nI s)) 5 0 8 (nI en)) 5 0 6 (nI 259), ?_, ⟨by rw [up_s], by rw [up_F (by omega), up_F (by omega), up_s], by rw [up_F (by omega), up_s]⟩, f678_u (f678_u (f678_u f0 (by omega)) (by omega)) (by omega)⟩
        have hw : w = 1 := w1.mpr e4.1
        rw [e_Reader_step_17, if_neg (by rw [hw]; decide), e_Reader_step_18, t7, if_pos (by rw [e4.2]), e_Reader_step_19, e_Reader_step_21, e_Reader_step_23]
        rfl
      · rw [if_neg e4]
        refine ⟨mm_up (mm_up (mm_up I 5 0 7 (nI s)) 5 0 8 (nI en)) 5 0 6 (nI (sof (T s))), ?_, ⟨by rw [up_s], by rw [up_F (by omega), up_F (by omega), up_s], by rw [up_F (by omega), up_s]⟩, f678_u (f678_u (f678_u f0 (by omega)) (by omega)) (by omega)⟩
        by_cases hw : w = 1
        · have : s ≠ x.2.2 := fun q => e4 ⟨w1.mp hw, q⟩
          rw [e_Reader_step_17, if_neg (by rw [hw]; decide), e_Reader_step_18, t7, if_neg (by rw [neq (by omega) (by omega)]; exact this), e_Reader_step_20, e_Reader_step_21, e_Reader_step_23]
        · rw [e_Reader_step_17, if_pos (by rw [show w = 0 by omega]; rfl), e_Reader_step_20, e_Reader_step_21, e_Reader_step_23]
/-- the reader of the class -/
def RD (T : Nat → Nat) (n : Nat) (kx : Int32) (x : LX) (C : List Nat) (a : Nat) (I : mm_I) : Prop := TC T n I ∧ LC x I ∧ I 5 0 3 = nI C.length ∧ I 5 0 4 = nI a ∧ I 5 0 5 = kx ∧ ∀ p, p < C.length → I 30 0 p = nI (mm_at 0 C p)
theorem RD_x {T : Nat → Nat} {n : Nat} {kx : Int32} {x y : LX} {C : List Nat} {a : Nat} {I I' : mm_I} (h : RD T n kx x C a I) (hL : LC y I') (f : f678 I I') : RD T n kx y C a I' := by
  obtain ⟨⟨h0, h1, h2⟩, -, h3, h4, h5, h6⟩ := h
  refine ⟨⟨h0, ?_, ?_⟩, hL, ?_, ?_, ?_, ?_⟩
  · rw [f.2 1 (by decide) (by decide) (by decide)]; exact h1
  · rw [f.1 29 (by decide)]; exact h2
  · rw [f.2 3 (by decide) (by decide) (by decide)]; exact h3
  · rw [f.2 4 (by decide) (by decide) (by decide)]; exact h4
  · rw [f.2 5 (by decide) (by decide) (by decide)]; exact h5
  · rw [f.1 30 (by decide)]; exact h6
theorem s_RDstep (d n : Nat) (T : Nat → Nat) (kx : Int32) (x : LX) (C : List Nat) (a : Nat) (I : mm_I) (h : RD T n kx x C a I) (hw : x.1 ≤ 259 ∧ x.2.2 ≤ n) : ∃ I', Sn (d + 2) q_Reader_step [.inr (5, 0)] I = some (none, (sh0, I')) ∧ RD T n kx (nxT T n x) C a I' ∧ eqo [5, 30] I I' := by
  obtain ⟨I', a1, a2, a3⟩ := s_step d n T x I h.1 h.2.1.1 h.2.1.2.2 hw.2 hw.1
  exact ⟨I', a1, RD_x h a2 a3, eqo_mono a3.1 (by decide)⟩
theorem at_l : ∀ {l : List Nat} {m : List Nat} {k : Nat}, k < l.length → mm_at 0 (l ++ m) k = mm_at 0 l k
  | [], _, _, h => absurd h (Nat.not_lt_zero _)
  | _ :: _, _, 0, _ => rfl
  | _ :: l, m, k + 1, h => at_l (l := l) (m := m) (k := k) (by rw [List.length_cons] at h; omega)
theorem at_r : ∀ (l : List Nat) (c : Nat), mm_at 0 (l ++ [c]) l.length = c
  | [], _ => rfl
  | _ :: l, c => at_r l c
theorem s_put (d n c : Nat) (T : Nat → Nat) (kx : Int32) (x : LX) (C : List Nat) (a : Nat) (I : mm_I) (h : RD T n kx x C a I) (hC : C.length < 96) : ∃ I', Sn (d + 1) q_Reader_put [.inr (5, 0), .inl (nI c)] I = some (none, (sh0, I')) ∧ RD T n kx x (C ++ [c]) a I' ∧ eqo [5, 30] I I' := by
  obtain ⟨⟨h0, h1, h2⟩, ⟨x1, x2, x3⟩, h3, h4, h5, h6⟩ := h
  refine ⟨mm_up (mm_up I 30 0 C.length (nI c)) 5 0 3 (nI (C.length + 1)), ?_, ⟨⟨h0, ?_, fun p hp => ⟨(h2 p hp).1, ?_⟩⟩, ⟨?_, ?_, ?_⟩, ?_, ?_, ?_, fun p hp => ?_⟩, eqo_up (eqo_up (eqo_rf _ _) (by decide)) (by decide)⟩
  · simp (disch := omega) only [n_Reader_put, e_Reader_put_0, e_Reader_put_1, e_Reader_put_2, lit, nad, nml, bd_s, ct_s, ct_n, a11, a01, aB2, bitA, nlt, nle, neq, dlT, dlF, deT, deF, dqT, dqF, nN, inb, nsb, ndv, nrm, if_true, if_false, ite_true, ite_false, true_and, and_true, and_self, and_false, false_and, or_true, true_or, or_false, false_or, or_self, ↓reduceIte, eq_self, Nat.reduceAdd, Nat.reduceMul, Nat.reduceSub, Nat.reduceDiv, Nat.reduceMod, Nat.zero_add, Nat.mul_zero, not_true_eq_false, not_false_eq_true, up_T, up_F, wr_T, wr_F, ngE, ngE', ngL, ngL', ngQ, ngQ', h3]
  · rw [up_F (by omega), up_F (by omega)]; exact h1
  · rw [up_F (by omega), up_F (by omega)]; exact (h2 p hp).2
  · rw [up_F (by omega), up_F (by omega)]; exact x1
  · rw [up_F (by omega), up_F (by omega)]; exact x2
  · rw [up_F (by omega), up_F (by omega)]; exact x3
  · rw [up_s, List.length_append]; rfl
  · rw [up_F (by omega), up_F (by omega)]; exact h4
  · rw [up_F (by omega), up_F (by omega)]; exact h5
  · rw [List.length_append, List.length_singleton] at hp
    rw [up_F (by omega)]
    by_cases e : p = C.length
    · rw [e, up_s, at_r]
    · rw [up_F (by omega), at_l (by omega)]
      exact h6 p (by omega)
theorem s_readOperand (d n c : Nat) (T : Nat → Nat) (kx : Int32) (x : LX) (C : List Nat) (a : Nat) (I : mm_I) (h : RD T n kx x C a I) (hC : C.length < 96) (hw : x.1 ≤ 259 ∧ x.2.2 ≤ n) : ∃ I', Sn (d + 3) q_Reader_readOperand [.inr (5, 0), .inl (nI c)] I = some (some (.inl (nI 1)), (sh0, I')) ∧ RD T n kx (nxT T n x) (C ++ [c]) (a + 1) I' ∧ eqo [5, 30] I I' := by
  obtain ⟨I1, a1, a2, a3⟩ := s_put (d + 1) n c T kx x C a I h hC
  have h4 : I1 5 0 4 = nI a := a2.2.2.2.1
  have r1 : RD T n kx x (C ++ [c]) (a + 1) (mm_up I1 5 0 4 (nI (a + 1))) := by
    obtain ⟨b0, ⟨x1, x2, x3⟩, b3, b4, b5, b6⟩ := a2
    exact ⟨TC_u b0 (by decide), ⟨by rw [up_F (by omega)]; exact x1, by rw [up_F (by omega)]; exact x2, by rw [up_F (by omega)]; exact x3⟩, by rw [up_F (by omega)]; exact b3, up_s _ _ _ _ _, by rw [up_F (by omega)]; exact b5, fun p hp => by rw [up_F (by omega)]; exact b6 p hp⟩
  obtain ⟨I2, c1, c2, c3⟩ := s_RDstep d n T kx x (C ++ [c]) (a + 1) _ r1 hw
  refine ⟨I2, ?_, c2, eqo_tr a3 (eqo_tr (eqo_up (eqo_rf _ _) (by decide)) c3)⟩
  simp (disch := omega) only [n_Reader_readOperand, e_Reader_readOperand_0, e_Reader_readOperand_1, e_Reader_readOperand_2, lit, nad, nml, bd_s, ct_s, ct_n, a11, a01, aB2, bitA, nlt, nle, neq, dlT, dlF, deT, deF, dqT, dqF, nN, inb, nsb, ndv, nrm, if_true, if_false, ite_true, ite_false, true_and, and_true, and_self, and_false, false_and, or_true, true_or, or_false, false_or, or_self, ↓reduceIte, eq_self, Nat.reduceAdd, Nat.reduceMul, Nat.reduceSub, Nat.reduceDiv, Nat.reduceMod, Nat.zero_add, Nat.mul_zero, not_true_eq_false, not_false_eq_true, up_T, up_F, wr_T, wr_F, ngE, ngE', ngL, ngL', ngQ, ngQ', a1, h4, c1]
