/-! The reference's words. -/
def TR (T : Nat → Nat) (n : Nat) (I : mm_I) : Prop := n ≤ 96 ∧ I 12 0 11 = nI n ∧ ∀ p, p < n → T p ≤ 255 ∧ I 52 0 p = nI (T p)
theorem TR_u {T : Nat → Nat} {n j : Nat} {x : Int32} {I : mm_I} (h : TR T n I) (hj : j ≠ 11) : TR T n (mm_up I 12 0 j x) := ⟨h.1, by rw [up_F (by omega)]; exact h.2.1, fun p hp => ⟨(h.2.2 p hp).1, by rw [up_F (by omega)]; exact (h.2.2 p hp).2⟩⟩
def g5 (I I' : mm_I) : Prop := eqo [12] I I' ∧ ∀ j, ¬ (12 ≤ j ∧ j ≤ 16) → I' 12 0 j = I 12 0 j
theorem g5_rf (I : mm_I) : g5 I I := ⟨eqo_rf _ _, fun _ _ => rfl⟩
theorem g5_u {I I' : mm_I} {j : Nat} {x : Int32} (h : g5 I I') (hj : 12 ≤ j ∧ j ≤ 16) : g5 I (mm_up I' 12 0 j x) := ⟨eqo_up h.1 (by decide), fun i hi => by rw [up_F (by omega)]; exact h.2 i hi⟩
theorem g5_tr {I J K : mm_I} (h : g5 I J) (h2 : g5 J K) : g5 I K := ⟨eqo_tr h.1 h2.1, fun j hj => (h2.2 j hj).trans (h.2 j hj)⟩
theorem TR_g {T : Nat → Nat} {n : Nat} {I I' : mm_I} (h : TR T n I) (g : g5 I I') : TR T n I' := ⟨h.1, by rw [g.2 11 (by omega)]; exact h.2.1, fun p hp => by rw [g.1 52 (by decide)]; exact h.2.2 p hp⟩
def isK (T : Nat → Nat) (n f p : Nat) : Bool := decide (p < n) && sof (T p) == f
theorem isK_n {T : Nat → Nat} {n f p : Nat} (h : ¬ p < n) : isK T n f p = false := by unfold isK; rw [decide_eq_false h]; rfl
theorem isK_w {T : Nat → Nat} {n f p : Nat} (h : p < n) : isK T n f p = wdP T f p := by unfold isK wdP; rw [decide_eq_true h]; rfl
theorem s_isLetter (d n p : Nat) (T : Nat → Nat) (I : mm_I) (hT : TR T n I) (hp : p ≤ n) : Sn (d + 1) q_M_isLetter [.inr (12, 0), .inl (nI p)] I = some (some (.inl (nI (b2 (isK T n 257 p)))), (sh0, I)) := by
  obtain ⟨hn, l11, h2⟩ := hT
  by_cases e : p < n
  · obtain ⟨hb, l52⟩ := h2 p e
    have s7 := sof_7 hb
    rw [isK_w e]
    by_cases e2 : 97 ≤ T p ∧ T p ≤ 122
    · rw [show wdP T 257 p = true by unfold wdP; exact beq_iff_eq.mpr (s7.mpr e2)]
      simp (disch := omega) only [n_M_isLetter, e_M_isLetter_0, e_M_isLetter_1, e_M_isLetter_2, e_M_isLetter_3, e_M_isLetter_4, e_M_isLetter_5, lit, nad, nml, bd_s, ct_s, ct_n, a11, a01, aB2, bitA, nlt, nle, neq, dlT, dlF, deT, deF, dqT, dqF, nN, inb, nsb, ndv, nrm, if_true, if_false, ite_true, ite_false, true_and, and_true, and_self, and_false, false_and, or_true, true_or, or_false, false_or, or_self, ↓reduceIte, eq_self, Nat.reduceAdd, Nat.reduceMul, Nat.reduceSub, Nat.reduceDiv, Nat.reduceMod, Nat.zero_add, Nat.mul_zero, not_true_eq_false, not_false_eq_true, up_T, up_F, wr_T, wr_F, ngE, ngE', ngL, ngL', ngQ, ngQ', l11, l52, b2T]
    · rw [show wdP T 257 p = false by unfold wdP; exact beq_eq_false_iff_ne.mpr (fun q => e2 (s7.mp q))]
      by_cases e3 : T p < 97
      · simp (disch := omega) only [n_M_isLetter, e_M_isLetter_0, e_M_isLetter_1, e_M_isLetter_2, e_M_isLetter_3, e_M_isLetter_4, e_M_isLetter_5, lit, nad, nml, bd_s, ct_s, ct_n, a11, a01, aB2, bitA, nlt, nle, neq, dlT, dlF, deT, deF, dqT, dqF, nN, inb, nsb, ndv, nrm, if_true, if_false, ite_true, ite_false, true_and, and_true, and_self, and_false, false_and, or_true, true_or, or_false, false_or, or_self, ↓reduceIte, eq_self, Nat.reduceAdd, Nat.reduceMul, Nat.reduceSub, Nat.reduceDiv, Nat.reduceMod, Nat.zero_add, Nat.mul_zero, not_true_eq_false, not_false_eq_true, up_T, up_F, wr_T, wr_F, ngE, ngE', ngL, ngL', ngQ, ngQ', l11, l52, b2F]
      · simp (disch := omega) only [n_M_isLetter, e_M_isLetter_0, e_M_isLetter_1, e_M_isLetter_2, e_M_isLetter_3, e_M_isLetter_4, e_M_isLetter_5, lit, nad, nml, bd_s, ct_s, ct_n, a11, a01, aB2, bitA, nlt, nle, neq, dlT, dlF, deT, deF, dqT, dqF, nN, inb, nsb, ndv, nrm, if_true, if_false, ite_true, ite_false, true_and, and_true, and_self, and_false, false_and, or_true, true_or, or_false, false_or, or_self, ↓reduceIte, eq_self, Nat.reduceAdd, Nat.reduceMul, Nat.reduceSub, Nat.reduceDiv, Nat.reduceMod, Nat.zero_add, Nat.mul_zero, not_true_eq_false, not_false_eq_true, up_T, up_F, wr_T, wr_F, ngE, ngE', ngL, ngL', ngQ, ngQ', l11, l52, b2F]
  · rw [isK_n e]
    simp (disch := omega) only [n_M_isLetter, e_M_isLetter_0, e_M_isLetter_1, e_M_isLetter_2, e_M_isLetter_3, e_M_isLetter_4, e_M_isLetter_5, lit, nad, nml, bd_s, ct_s, ct_n, a11, a01, aB2, bitA, nlt, nle, neq, dlT, dlF, deT, deF, dqT, dqF, nN, inb, nsb, ndv, nrm, if_true, if_false, ite_true, ite_false, true_and, and_true, and_self, and_false, false_and, or_true, true_or, or_false, false_or, or_self, ↓reduceIte, eq_self, Nat.reduceAdd, Nat.reduceMul, Nat.reduceSub, Nat.reduceDiv, Nat.reduceMod, Nat.zero_add, Nat.mul_zero, not_true_eq_false, not_false_eq_true, up_T, up_F, wr_T, wr_F, ngE, ngE', ngL, ngL', ngQ, ngQ', l11, b2F]
theorem s_isFigure (d n p : Nat) (T : Nat → Nat) (I : mm_I) (hT : TR T n I) (hp : p ≤ n) : Sn (d + 1) q_M_isFigure [.inr (12, 0), .inl (nI p)] I = some (some (.inl (nI (b2 (isK T n 258 p)))), (sh0, I)) := by
  obtain ⟨hn, l11, h2⟩ := hT
  by_cases e : p < n
  · obtain ⟨hb, l52⟩ := h2 p e
    have s7 := sof_8 hb
    rw [isK_w e]
    by_cases e2 : 48 ≤ T p ∧ T p ≤ 57
    · rw [show wdP T 258 p = true by unfold wdP; exact beq_iff_eq.mpr (s7.mpr e2)]
      simp (disch := omega) only [n_M_isFigure, e_M_isFigure_0, e_M_isFigure_1, e_M_isFigure_2, e_M_isFigure_3, e_M_isFigure_4, e_M_isFigure_5, lit, nad, nml, bd_s, ct_s, ct_n, a11, a01, aB2, bitA, nlt, nle, neq, dlT, dlF, deT, deF, dqT, dqF, nN, inb, nsb, ndv, nrm, if_true, if_false, ite_true, ite_false, true_and, and_true, and_self, and_false, false_and, or_true, true_or, or_false, false_or, or_self, ↓reduceIte, eq_self, Nat.reduceAdd, Nat.reduceMul, Nat.reduceSub, Nat.reduceDiv, Nat.reduceMod, Nat.zero_add, Nat.mul_zero, not_true_eq_false, not_false_eq_true, up_T, up_F, wr_T, wr_F, ngE, ngE', ngL, ngL', ngQ, ngQ', l11, l52, b2T]
    · rw [show wdP T 258 p = false by unfold wdP; exact beq_eq_false_iff_ne.mpr (fun q => e2 (s7.mp q))]
      by_cases e3 : T p < 48
      · simp (disch := omega) only [n_M_isFigure, e_M_isFigure_0, e_M_isFigure_1, e_M_isFigure_2, e_M_isFigure_3, e_M_isFigure_4, e_M_isFigure_5, lit, nad, nml, bd_s, ct_s, ct_n, a11, a01, aB2, bitA, nlt, nle, neq, dlT, dlF, deT, deF, dqT, dqF, nN, inb, nsb, ndv, nrm, if_true, if_false, ite_true, ite_false, true_and, and_true, and_self, and_false, false_and, or_true, true_or, or_false, false_or, or_self, ↓reduceIte, eq_self, Nat.reduceAdd, Nat.reduceMul, Nat.reduceSub, Nat.reduceDiv, Nat.reduceMod, Nat.zero_add, Nat.mul_zero, not_true_eq_false, not_false_eq_true, up_T, up_F, wr_T, wr_F, ngE, ngE', ngL, ngL', ngQ, ngQ', l11, l52, b2F]
      · simp (disch := omega) only [n_M_isFigure, e_M_isFigure_0, e_M_isFigure_1, e_M_isFigure_2, e_M_isFigure_3, e_M_isFigure_4, e_M_isFigure_5, lit, nad, nml, bd_s, ct_s, ct_n, a11, a01, aB2, bitA, nlt, nle, neq, dlT, dlF, deT, deF, dqT, dqF, nN, inb, nsb, ndv, nrm, if_true, if_false, ite_true, ite_false, true_and, and_true, and_self, and_false, false_and, or_true, true_or, or_false, false_or, or_self, ↓reduceIte, eq_self, Nat.reduceAdd, Nat.reduceMul, Nat.reduceSub, Nat.reduceDiv, Nat.reduceMod, Nat.zero_add, Nat.mul_zero, not_true_eq_false, not_false_eq_true, up_T, up_F, wr_T, wr_F, ngE, ngE', ngL, ngL', ngQ, ngQ', l11, l52, b2F]
  · rw [isK_n e]
    simp (disch := omega) only [n_M_isFigure, e_M_isFigure_0, e_M_isFigure_1, e_M_isFigure_2, e_M_isFigure_3, e_M_isFigure_4, e_M_isFigure_5, lit, nad, nml, bd_s, ct_s, ct_n, a11, a01, aB2, bitA, nlt, nle, neq, dlT, dlF, deT, deF, dqT, dqF, nN, inb, nsb, ndv, nrm, if_true, if_false, ite_true, ite_false, true_and, and_true, and_self, and_false, false_and, or_true, true_or, or_false, false_or, or_self, ↓reduceIte, eq_self, Nat.reduceAdd, Nat.reduceMul, Nat.reduceSub, Nat.reduceDiv, Nat.reduceMod, Nat.zero_add, Nat.mul_zero, not_true_eq_false, not_false_eq_true, up_T, up_F, wr_T, wr_F, ngE, ngE', ngL, ngL', ngQ, ngQ', l11, b2F]
theorem s_go0 (d n : Nat) (T : Nat → Nat) (v : Option mm_V) : ∀ k a (I : mm_I), a + k = n → TR T n I → I 12 0 12 = nI a → Rn d q_M_go 0 [some (.inr (12, 0)), v] [] I = Rn d q_M_go 3 [some (.inr (12, 0)), v] [] (mm_up I 12 0 12 (nI (sk (bkP T) k a))) := by
  intro k
  induction k with
  | zero =>
    intro a I ha hT h7
    have hn := hT.1
    rw [show sk (bkP T) 0 a = a from rfl, upid h7, e_M_go_0, h7, hT.2.1, if_neg (by rw [nlt (by omega) (by omega)]; omega)]
  | succ k ih =>
    intro a I ha hT h7
    have hn := hT.1
    obtain ⟨hb, l29⟩ := hT.2.2 a (by omega)
    have st : Rn d q_M_go 0 [some (.inr (12, 0)), v] [] I = if T a = 32 then Rn d q_M_go 2 [some (.inr (12, 0)), v] [] I else Rn d q_M_go 3 [some (.inr (12, 0)), v] [] I := by
      rw [e_M_go_0, h7, hT.2.1, if_pos (by rw [nlt (by omega) (by omega)]; omega), e_M_go_1, h7, if_pos (by rw [nI_toInt (by omega)]; omega), nN (by omega), l29]
      by_cases e : T a = 32
      · rw [if_pos e, if_pos (by rw [e]; rfl)]
      · rw [if_neg e, if_neg (by rw [show (32 : Int32) = nI 32 from rfl, neq (by omega) (by omega)]; exact e)]
    rw [st, sk]
    by_cases e : T a = 32
    · rw [if_pos e, if_pos (show bkP T a = true by unfold bkP; rw [e]; rfl), e_M_go_2, h7, show nI a + (1 : Int32) = nI (a + 1) from nad a 1, ih (a + 1) _ (by omega) (TR_u hT (by decide)) (up_s _ _ _ _ _), upup]
    · rw [if_neg e, if_neg (show ¬ bkP T a = true by unfold bkP; simpa using e), upid h7]
theorem s_go10 (d n : Nat) (T : Nat → Nat) (x1 : Int32) : ∀ k a (I : mm_I), a + k = n → TR T n I → I 12 0 12 = nI a → Rn (d + 1) q_M_go 10 [some (.inr (12, 0)), some (.inl x1)] [] I = Rn (d + 1) q_M_go 13 [some (.inr (12, 0)), some (.inl x1)] [] (mm_up I 12 0 12 (nI (sk (wdP T 257) k a))) := by
  intro k
  induction k with
  | zero =>
    intro a I ha hT h7
    have il := s_isLetter d n a T I hT (by omega)
    rw [isK_n (by omega)] at il
    rw [show sk (wdP T 257) 0 a = a from rfl, upid h7, e_M_go_10, h7, il, bd_s, ct_s]
    refine (e_M_go_11 (d + 1) x1 _ I).trans ?_
    rw [if_pos (show nI (b2 false) = 0 from rfl)]
  | succ k ih =>
    intro a I ha hT h7
    have il := s_isLetter d n a T I hT (by omega)
    rw [isK_w (by omega)] at il
    rw [sk, e_M_go_10, h7, il, bd_s, ct_s]
    refine (e_M_go_11 (d + 1) x1 _ I).trans ?_
    cases z : wdP T 257 a with
    | true => rw [if_neg (show ¬ nI (b2 true) = 0 by decide), if_pos rfl, e_M_go_12, h7, show nI a + (1 : Int32) = nI (a + 1) from nad a 1, ih (a + 1) _ (by omega) (TR_u hT (by decide)) (up_s _ _ _ _ _), upup]
    | false => rw [if_pos (show nI (b2 false) = 0 from rfl), if_neg (by decide), upid h7]
def f1215 (I I' : mm_I) : Prop := eqo [12] I I' ∧ ∀ j, j ≠ 12 → j ≠ 15 → I' 12 0 j = I 12 0 j
theorem s_go20 (d n s : Nat) (T : Nat → Nat) (x1 : Int32) : ∀ k a (I : mm_I), a + k = n → s ≤ a → TR T n I → I 12 0 12 = nI a → I 12 0 13 = nI s → I 12 0 15 = nI (nmT T s (min 4 (a - s))) → (∀ p, s ≤ p → p < a → T p ≤ 57) → ∃ I', Rn (d + 1) q_M_go 20 [some (.inr (12, 0)), some (.inl x1)] [] I = Rn (d + 1) q_M_go 26 [some (.inr (12, 0)), some (.inl x1)] [] I' ∧ f1215 I I' ∧ I' 12 0 12 = nI (sk (wdP T 258) k a) ∧ I' 12 0 15 = nI (nmT T s (min 4 (sk (wdP T 258) k a - s))) := by
  intro k
  induction k with
  | zero =>
    intro a I ha hs hT h12 h13 h15 hd
    have il := s_isFigure d n a T I hT (by omega)
    rw [isK_n (by omega)] at il
    refine ⟨I, ?_, ⟨eqo_rf _ _, fun _ _ _ => rfl⟩, h12, h15⟩
    rw [e_M_go_20, h12, il, bd_s, ct_s]
    refine (e_M_go_21 (d + 1) x1 _ I).trans ?_
    rw [if_pos (show nI (b2 false) = 0 from rfl)]
  | succ k ih =>
    intro a I ha hs hT h12 h13 h15 hd
    have hn := hT.1
    have il := s_isFigure d n a T I hT (by omega)
    rw [isK_w (by omega)] at il
    rw [sk]
    cases z : wdP T 258 a with
    | false =>
      rw [if_neg (by decide)]
      rw [z] at il
      refine ⟨I, ?_, ⟨eqo_rf _ _, fun _ _ _ => rfl⟩, h12, h15⟩
      rw [e_M_go_20, h12, il, bd_s, ct_s]
      refine (e_M_go_21 (d + 1) x1 _ I).trans ?_
      rw [if_pos (show nI (b2 false) = 0 from rfl)]
    | true =>
      rw [if_pos rfl]
      rw [z] at il
      obtain ⟨hb, l52⟩ := hT.2.2 a (by omega)
      have g := (sof_8 hb).mp (eq_of_beq z)
      have vb := nmT_b (T := T) (s := s) (k := min 4 (a - s)) (fun i hi => hd (s + i) (by omega) (by omega))
      have pb : 10 ^ min 4 (a - s) ≤ 10 ^ 4 := Nat.pow_le_pow_right (by decide) (by omega)
      have st : Rn (d + 1) q_M_go 20 [some (.inr (12, 0)), some (.inl x1)] [] I = Rn (d + 1) q_M_go 20 [some (.inr (12, 0)), some (.inl x1)] [] (mm_up (mm_up I 12 0 15 (nI (nmT T s (min 4 (a + 1 - s))))) 12 0 12 (nI (a + 1))) := by
        have s0 : Rn (d + 1) q_M_go 20 [some (.inr (12, 0)), some (.inl x1)] [] I = Rn (d + 1) q_M_go 22 [some (.inr (12, 0)), some (.inl x1)] [] I := by
          rw [e_M_go_20, h12, il, bd_s, ct_s]
          refine (e_M_go_21 (d + 1) x1 _ I).trans ?_
          rw [if_neg (show ¬ nI (b2 true) = 0 by decide)]
        rw [s0]
        by_cases e : a - s < 4
        · have m1 : min 4 (a + 1 - s) = min 4 (a - s) + 1 := by omega
          have m2 : s + min 4 (a - s) = a := by omega
          have e48 : 10 * nmT T s (min 4 (a - s)) + T a - 48 = nmT T s (min 4 (a + 1 - s)) := by rw [m1, nmT, m2]; omega
          simp (disch := omega) only [e_M_go_22, e_M_go_23, e_M_go_25, lit, nad, nml, bd_s, ct_s, ct_n, a11, a01, aB2, bitA, nlt, nle, neq, dlT, dlF, deT, deF, dqT, dqF, nN, inb, nsb, ndv, nrm, if_true, if_false, ite_true, ite_false, true_and, and_true, and_self, and_false, false_and, or_true, true_or, or_false, false_or, or_self, ↓reduceIte, eq_self, Nat.reduceAdd, Nat.reduceMul, Nat.reduceSub, Nat.reduceDiv, Nat.reduceMod, Nat.zero_add, Nat.mul_zero, not_true_eq_false, not_false_eq_true, up_T, up_F, wr_T, wr_F, ngE, ngE', ngL, ngL', ngQ, ngQ', h12, h13, h15, l52, e48]
        · have m1 : min 4 (a + 1 - s) = min 4 (a - s) := by omega
          rw [m1]
          simp (disch := omega) only [e_M_go_22, e_M_go_24, e_M_go_25, lit, nad, nml, bd_s, ct_s, ct_n, a11, a01, aB2, bitA, nlt, nle, neq, dlT, dlF, deT, deF, dqT, dqF, nN, inb, nsb, ndv, nrm, if_true, if_false, ite_true, ite_false, true_and, and_true, and_self, and_false, false_and, or_true, true_or, or_false, false_or, or_self, ↓reduceIte, eq_self, Nat.reduceAdd, Nat.reduceMul, Nat.reduceSub, Nat.reduceDiv, Nat.reduceMod, Nat.zero_add, Nat.mul_zero, not_true_eq_false, not_false_eq_true, up_T, up_F, wr_T, wr_F, ngE, ngE', ngL, ngL', ngQ, ngQ', h12, h13, h15]
      obtain ⟨I', i1, i2, i3, i4⟩ := ih (a + 1) (mm_up (mm_up I 12 0 15 (nI (nmT T s (min 4 (a + 1 - s))))) 12 0 12 (nI (a + 1))) (by omega) (by omega) (TR_u (TR_u hT (by decide)) (by decide)) (up_s _ _ _ _ _) (by rw [up_F (by omega), up_F (by omega)]; exact h13) (by rw [up_F (by omega), up_s]) (fun p h1 h2 => by
        by_cases q : p = a
        · rw [q]; exact g.2
        · exact hd p h1 (by omega))
      refine ⟨I', st.trans i1, ⟨eqo_tr (eqo_up (eqo_up (eqo_rf _ _) (by decide)) (by decide)) i2.1, fun j h1 h2 => by rw [i2.2 j h1 h2, up_F (by omega), up_F (by omega)]⟩, i3, i4⟩
def tkN (x : LX) : Nat := if x.1 = 256 then 0 else if x.1 = 257 then 1 else if x.1 = 258 then (if x.2.2 - x.2.1 ≤ 4 then 2 else 4) else if x.1 = 259 then 4 else 3
def EN (x : LX) (I : mm_I) : Prop := ∀ p, x.2.2 ≤ p → p ≤ 96 → (nI p = I 12 0 16 ↔ ((x.1 = 257 ∨ x.1 = 258) ∧ p = x.2.2))
def LR (T : Nat → Nat) (x : LX) (I : mm_I) : Prop := I 12 0 12 = nI x.2.2 ∧ I 12 0 13 = nI x.2.1 ∧ I 12 0 14 = nI (tkN x) ∧ (x.1 < 256 → I 12 0 15 = nI x.1) ∧ (x.1 = 257 → I 12 0 15 = nI (T x.2.1)) ∧ (x.1 = 258 → x.2.2 - x.2.1 ≤ 4 → I 12 0 15 = nI (nmT T x.2.1 (x.2.2 - x.2.1))) ∧ (x.1 ≠ 256 → x.1 ≠ 259 → EN x I)
theorem s_go (d n : Nat) (T : Nat → Nat) (x : LX) (I : mm_I) (hT : TR T n I) (h12 : I 12 0 12 = nI x.2.2) (hE : EN x I) (he : x.2.2 ≤ n) : ∃ I', Sn (d + 2) q_M_go [.inr (12, 0)] I = some (none, (sh0, I')) ∧ LR T (nxT T n x) I' ∧ g5 I I' := by
  have hn := hT.1
  have l11 : I 12 0 11 = nI n := hT.2.1
  have hs := sk_b (bkP T) (n - x.2.2) x.2.2
  have s0 : Sn (d + 2) q_M_go [.inr (12, 0)] I = Rn (d + 1) q_M_go 3 [some (.inr (12, 0)), none] [] (mm_up I 12 0 12 (nI (sk (bkP T) (n - x.2.2) x.2.2))) := by
    rw [n_M_go]
    exact s_go0 (d + 1) n T none (n - x.2.2) x.2.2 I (by omega) hT h12
  rw [s0]
  unfold nxT
  generalize sk (bkP T) (n - x.2.2) x.2.2 = s at *
  have hE' := hE s hs.1 (by omega)
  have c0 : ∃ c, (c = 1 ↔ ((x.1 = 257 ∨ x.1 = 258) ∧ s = x.2.2)) ∧ (c = 0 ∨ c = 1) ∧ Rn (d + 1) q_M_go 3 [some (.inr (12, 0)), none] [] (mm_up I 12 0 12 (nI s)) = Rn (d + 1) q_M_go 6 [some (.inr (12, 0)), none] [.inl (nI c)] (mm_up (mm_up I 12 0 12 (nI s)) 12 0 13 (nI s)) := by
    have r1 : mm_up I 12 0 12 (nI s) 12 0 12 = nI s := up_s _ _ _ _ _
    have r2 : mm_up (mm_up I 12 0 12 (nI s)) 12 0 13 (nI s) 12 0 13 = nI s := up_s _ _ _ _ _
    have r3 : mm_up (mm_up I 12 0 12 (nI s)) 12 0 13 (nI s) 12 0 16 = I 12 0 16 := by rw [up_F (by omega), up_F (by omega)]
    by_cases e : nI s = I 12 0 16
    · refine ⟨1, ⟨fun _ => hE'.mp e, fun _ => rfl⟩, Or.inr rfl, ?_⟩
      rw [e_M_go_3, r1, r2, r3, if_pos e, e_M_go_4]
      rfl
    · refine ⟨0, ⟨fun q => absurd q (by decide), fun q => absurd (hE'.mpr q) e⟩, Or.inl rfl, ?_⟩
      rw [e_M_go_3, r1, r2, r3, if_neg e, e_M_go_5]
      rfl
  obtain ⟨c, c1, c2, c3⟩ := c0
  rw [c3]
  have hT1 : TR T n (mm_up (mm_up I 12 0 12 (nI s)) 12 0 13 (nI s)) := TR_u (TR_u hT (by decide)) (by decide)
  have g1 : g5 I (mm_up (mm_up I 12 0 12 (nI s)) 12 0 13 (nI s)) := g5_u (g5_u (g5_rf _) (by omega)) (by omega)
  have r12 : mm_up (mm_up I 12 0 12 (nI s)) 12 0 13 (nI s) 12 0 12 = nI s := by rw [up_F (by omega), up_s]
  have r13 : mm_up (mm_up I 12 0 12 (nI s)) 12 0 13 (nI s) 12 0 13 = nI s := up_s _ _ _ _ _
  have r16 : mm_up (mm_up I 12 0 12 (nI s)) 12 0 13 (nI s) 12 0 16 = I 12 0 16 := by rw [up_F (by omega), up_F (by omega)]
  generalize mm_up (mm_up I 12 0 12 (nI s)) 12 0 13 (nI s) = J at *
  have j11 : J 12 0 11 = nI n := hT1.2.1
  by_cases e : s < n
  rotate_left
  · rw [if_neg e]
    refine ⟨mm_up J 12 0 14 (nI 0), ?_, ⟨by rw [up_F (by omega)]; exact r12, by rw [up_F (by omega)]; exact r13, by rw [up_s]; rfl, fun q => absurd q (by dsimp only; decide), fun q => absurd q (by dsimp only; decide), fun q => absurd q (by dsimp only; decide), fun q => absurd rfl q⟩, g5_u g1 (by omega)⟩
    simp (disch := omega) only [e_M_go_6, e_M_go_7, e_M_go_32, lit, nad, nml, bd_s, ct_s, ct_n, a11, a01, aB2, bitA, nlt, nle, neq, dlT, dlF, deT, deF, dqT, dqF, nN, inb, nsb, ndv, nrm, if_true, if_false, ite_true, ite_false, true_and, and_true, and_self, and_false, false_and, or_true, true_or, or_false, false_or, or_self, ↓reduceIte, eq_self, Nat.reduceAdd, Nat.reduceMul, Nat.reduceSub, Nat.reduceDiv, Nat.reduceMod, Nat.zero_add, Nat.mul_zero, not_true_eq_false, not_false_eq_true, up_T, up_F, wr_T, wr_F, ngE, ngE', ngL, ngL', ngQ, ngQ', r13, j11]
  · rw [if_pos e]
    obtain ⟨hb, l52⟩ := hT1.2.2 s e
    have il := s_isLetter d n s T J hT1 (by omega)
    rw [isK_w e] at il
    have iF := s_isFigure d n s T J hT1 (by omega)
    rw [isK_w e] at iF
    have st : Rn (d + 1) q_M_go 6 [some (.inr (12, 0)), none] [.inl (nI c)] J = Rn (d + 1) q_M_go 9 [some (.inr (12, 0)), some (.inl (nI c))] [.inl (nI (b2 (wdP T 257 s)))] J := by
      simp (disch := omega) only [e_M_go_6, e_M_go_8, lit, nad, nml, bd_s, ct_s, ct_n, a11, a01, aB2, bitA, nlt, nle, neq, dlT, dlF, deT, deF, dqT, dqF, nN, inb, nsb, ndv, nrm, if_true, if_false, ite_true, ite_false, true_and, and_true, and_self, and_false, false_and, or_true, true_or, or_false, false_or, or_self, ↓reduceIte, eq_self, Nat.reduceAdd, Nat.reduceMul, Nat.reduceSub, Nat.reduceDiv, Nat.reduceMod, Nat.zero_add, Nat.mul_zero, not_true_eq_false, not_false_eq_true, up_T, up_F, wr_T, wr_F, ngE, ngE', ngL, ngL', ngQ, ngQ', r13, j11, il]
    rw [st]
    have hsn : n - s = (n - (s + 1)) + 1 := by omega
    by_cases e7 : sof (T s) = 257
    · rw [if_pos (Or.inl e7), e7]
      have w7 : wdP T 257 s = true := by unfold wdP; exact beq_iff_eq.mpr e7
      have skE : sk (wdP T 257) (n - s) s = sk (wdP T 257) (n - (s + 1)) (s + 1) := by rw [hsn, sk, if_pos w7]
      have hw := sk_b (wdP T 257) (n - (s + 1)) (s + 1)
      have lp := s_go10 d n T (nI c) (n - s) s J (by omega) hT1 r12
      rw [skE] at lp
      generalize sk (wdP T 257) (n - (s + 1)) (s + 1) = en at *
      have s1 : Rn (d + 1) q_M_go 9 [some (.inr (12, 0)), some (.inl (nI c))] [.inl (nI (b2 (wdP T 257 s)))] J = Rn (d + 1) q_M_go 13 [some (.inr (12, 0)), some (.inl (nI c))] [] (mm_up J 12 0 12 (nI en)) := by
        rw [w7, e_M_go_9, if_neg (by decide)]
        exact lp
      rw [s1]
      have fin : ∀ tk, Rn (d + 1) q_M_go 16 [some (.inr (12, 0)), some (.inl (nI c))] [.inl tk, .inr (12, 0)] (mm_up J 12 0 12 (nI en)) = some (none, (sh0, mm_up (mm_up (mm_up (mm_up J 12 0 12 (nI en)) 12 0 14 tk) 12 0 15 (nI (T s))) 12 0 16 (nI en))) := fun tk => by
        simp (disch := omega) only [e_M_go_16, e_M_go_32, lit, nad, nml, bd_s, ct_s, ct_n, a11, a01, aB2, bitA, nlt, nle, neq, dlT, dlF, deT, deF, dqT, dqF, nN, inb, nsb, ndv, nrm, if_true, if_false, ite_true, ite_false, true_and, and_true, and_self, and_false, false_and, or_true, true_or, or_false, false_or, or_self, ↓reduceIte, eq_self, Nat.reduceAdd, Nat.reduceMul, Nat.reduceSub, Nat.reduceDiv, Nat.reduceMod, Nat.zero_add, Nat.mul_zero, not_true_eq_false, not_false_eq_true, up_T, up_F, wr_T, wr_F, ngE, ngE', ngL, ngL', ngQ, ngQ', r13, l52]
      have gg : ∀ tk, g5 I (mm_up (mm_up (mm_up (mm_up J 12 0 12 (nI en)) 12 0 14 tk) 12 0 15 (nI (T s))) 12 0 16 (nI en)) := fun tk => g5_u (g5_u (g5_u (g5_u g1 (by omega)) (by omega)) (by omega)) (by omega)
      by_cases e4 : (x.1 = 257 ∨ x.1 = 258) ∧ s = x.2.2
      · rw [if_pos e4]
        refine ⟨_, ?_, ⟨?_, ?_, ?_, fun q => absurd q (by dsimp only; decide), fun q => absurd q (by dsimp only; decide), fun q => absurd q (by dsimp only; decide), fun _ q => absurd rfl q⟩, gg (nI 4)⟩
        · rw [e_M_go_13, c1.mpr e4, if_neg (by decide), e_M_go_14]
          rw [c1.mpr e4] at fin
          exact fin 4
        · rw [up_F (by omega), up_F (by omega), up_F (by omega), up_s]
        · rw [up_F (by omega), up_F (by omega), up_F (by omega), up_F (by omega)]; exact r13
        · rw [up_F (by omega), up_F (by omega), up_s]; rfl
      · rw [if_neg e4]
        have c0 : c = 0 := by
          rcases c2 with q | q
          · exact q
          · exact absurd (c1.mp q) e4
        refine ⟨_, ?_, ⟨?_, ?_, ?_, fun q => absurd q (by dsimp only; decide), fun _ => ?_, fun q => absurd q (by dsimp only; decide), fun _ _ p h1 h2 => ?_⟩, gg (nI 1)⟩
        · rw [e_M_go_13, c0, if_pos (by decide), e_M_go_15]
          rw [c0] at fin
          exact fin 1
        · rw [up_F (by omega), up_F (by omega), up_F (by omega), up_s]
        · rw [up_F (by omega), up_F (by omega), up_F (by omega), up_F (by omega)]; exact r13
        · rw [up_F (by omega), up_F (by omega), up_s]; rfl
        · rw [up_F (by omega), up_s]
        · dsimp only at h1 ⊢
          rw [up_s, neq (by omega) (by omega)]
          exact ⟨fun q => ⟨Or.inl rfl, q⟩, fun q => q.2⟩
    · have w7 : wdP T 257 s = false := by unfold wdP; exact beq_eq_false_iff_ne.mpr e7
      have s17 : Rn (d + 1) q_M_go 9 [some (.inr (12, 0)), some (.inl (nI c))] [.inl (nI (b2 (wdP T 257 s)))] J = Rn (d + 1) q_M_go 18 [some (.inr (12, 0)), some (.inl (nI c))] [.inl (nI (b2 (wdP T 258 s)))] J := by
        rw [w7]
        simp (disch := omega) only [e_M_go_9, e_M_go_17, lit, nad, nml, bd_s, ct_s, ct_n, a11, a01, aB2, bitA, nlt, nle, neq, dlT, dlF, deT, deF, dqT, dqF, nN, inb, nsb, ndv, nrm, if_true, if_false, ite_true, ite_false, true_and, and_true, and_self, and_false, false_and, or_true, true_or, or_false, false_or, or_self, ↓reduceIte, eq_self, Nat.reduceAdd, Nat.reduceMul, Nat.reduceSub, Nat.reduceDiv, Nat.reduceMod, Nat.zero_add, Nat.mul_zero, not_true_eq_false, not_false_eq_true, up_T, up_F, wr_T, wr_F, ngE, ngE', ngL, ngL', ngQ, ngQ', r13, iF, b2F]
      rw [s17]
      by_cases e8 : sof (T s) = 258
      · rw [if_pos (Or.inr e8), e8]
        have w8 : wdP T 258 s = true := by unfold wdP; exact beq_iff_eq.mpr e8
        have skE : sk (wdP T 258) (n - s) s = sk (wdP T 258) (n - (s + 1)) (s + 1) := by rw [hsn, sk, if_pos w8]
        have hw := sk_b (wdP T 258) (n - (s + 1)) (s + 1)
        obtain ⟨K, k1, k2, k3, k4⟩ := s_go20 d n s T (nI c) (n - s) s (mm_up J 12 0 15 (nI 0)) (by omega) (Nat.le_refl _) (TR_u hT1 (by decide)) (by rw [up_F (by omega)]; exact r12) (by rw [up_F (by omega)]; exact r13) (by rw [up_s, Nat.sub_self]; rfl) (fun p h1 h2 => by omega)
        rw [skE] at k3 k4
        generalize sk (wdP T 258) (n - (s + 1)) (s + 1) = en at *
        have s1 : Rn (d + 1) q_M_go 18 [some (.inr (12, 0)), some (.inl (nI c))] [.inl (nI (b2 (wdP T 258 s)))] J = Rn (d + 1) q_M_go 26 [some (.inr (12, 0)), some (.inl (nI c))] [] K := by
          rw [w8, e_M_go_18, if_neg (by decide), e_M_go_19]
          exact k1
        rw [s1]
        have k13 : K 12 0 13 = nI s := by rw [k2.2 13 (by decide) (by decide), up_F (by omega)]; exact r13
        have gK : g5 I K := g5_tr (g5_u g1 (j := 15) (x := nI 0) (by omega)) ⟨k2.1, fun j hj => k2.2 j (by omega) (by omega)⟩
        have fin : ∀ tk, Rn (d + 1) q_M_go 30 [some (.inr (12, 0)), some (.inl (nI c))] [.inl tk, .inr (12, 0)] K = some (none, (sh0, mm_up (mm_up K 12 0 14 tk) 12 0 16 (nI en))) := fun tk => by
          simp (disch := omega) only [e_M_go_30, e_M_go_32, lit, nad, nml, bd_s, ct_s, ct_n, a11, a01, aB2, bitA, nlt, nle, neq, dlT, dlF, deT, deF, dqT, dqF, nN, inb, nsb, ndv, nrm, if_true, if_false, ite_true, ite_false, true_and, and_true, and_self, and_false, false_and, or_true, true_or, or_false, false_or, or_self, ↓reduceIte, eq_self, Nat.reduceAdd, Nat.reduceMul, Nat.reduceSub, Nat.reduceDiv, Nat.reduceMod, Nat.zero_add, Nat.mul_zero, not_true_eq_false, not_false_eq_true, up_T, up_F, wr_T, wr_F, ngE, ngE', ngL, ngL', ngQ, ngQ', k3]
        have gg : ∀ tk, g5 I (mm_up (mm_up K 12 0 14 tk) 12 0 16 (nI en)) := fun tk => g5_u (g5_u gK (by omega)) (by omega)
        by_cases e4 : (x.1 = 257 ∨ x.1 = 258) ∧ s = x.2.2
        · rw [if_pos e4]
          refine ⟨_, ?_, ⟨?_, ?_, ?_, fun q => absurd q (by dsimp only; decide), fun q => absurd q (by dsimp only; decide), fun q => absurd q (by dsimp only; decide), fun _ q => absurd rfl q⟩, gg (nI 4)⟩
          · rw [e_M_go_26, c1.mpr e4, if_neg (by decide), e_M_go_28]
            rw [c1.mpr e4] at fin
            exact fin 4
          · rw [up_F (by omega), up_F (by omega)]; exact k3
          · rw [up_F (by omega), up_F (by omega)]; exact k13
          · rw [up_F (by omega), up_s]; rfl
        · rw [if_neg e4]
          have c0 : c = 0 := by
            rcases c2 with q | q
            · exact q
            · exact absurd (c1.mp q) e4
          have tk : tkN (258, s, en) = if en - s ≤ 4 then 2 else 4 := rfl
          refine ⟨mm_up (mm_up K 12 0 14 (nI (tkN (258, s, en)))) 12 0 16 (nI en), ?_, ⟨?_, ?_, ?_, fun q => absurd q (by dsimp only; decide), fun q => absurd q (by dsimp only; decide), fun _ q => ?_, fun _ _ p h1 h2 => ?_⟩, gg _⟩
          · rw [tk]
            have sb : nI en - nI s = nI (en - s) := nsb (by omega)
            rw [e_M_go_26, c0, if_pos (by decide), e_M_go_27, k3, k13, sb]
            rw [c0] at fin
            by_cases e5 : en - s ≤ 4
            · rw [if_pos e5, if_neg (by rw [show (4 : Int32) = nI 4 from rfl, nlt (by omega) (by omega)]; omega), e_M_go_29]
              exact fin 2
            · rw [if_neg e5, if_pos (by rw [show (4 : Int32) = nI 4 from rfl, nlt (by omega) (by omega)]; omega), e_M_go_28]
              exact fin 4
          · rw [up_F (by omega), up_F (by omega)]; exact k3
          · rw [up_F (by omega), up_F (by omega)]; exact k13
          · rw [up_F (by omega), up_s]
          · dsimp only at q ⊢
            rw [up_F (by omega), up_F (by omega), k4, show min 4 (en - s) = en - s by omega]
          · dsimp only at h1 ⊢
            rw [up_s, neq (by omega) (by omega)]
            exact ⟨fun q => ⟨Or.inr rfl, q⟩, fun q => q.2⟩
      · have w8 : wdP T 258 s = false := by unfold wdP; exact beq_eq_false_iff_ne.mpr e8
        have hso := sof_b hb
        have hss : sof (T s) = T s := sof_s (by omega)
        rw [if_neg (by omega), hss]
        have i1 : nI s + (1 : Int32) = nI (s + 1) := nad s 1
        refine ⟨mm_up (mm_up (mm_up J 12 0 14 (nI 3)) 12 0 15 (nI (T s))) 12 0 12 (nI (s + 1)), ?_, ⟨?_, ?_, ?_, fun _ => ?_, fun q => ?_, fun q => ?_, fun _ _ p h1 h2 => ?_⟩, g5_u (g5_u (g5_u g1 (by omega)) (by omega)) (by omega)⟩
        · rw [w8]
          simp (disch := omega) only [e_M_go_18, e_M_go_31, e_M_go_32, lit, nad, nml, bd_s, ct_s, ct_n, a11, a01, aB2, bitA, nlt, nle, neq, dlT, dlF, deT, deF, dqT, dqF, nN, inb, nsb, ndv, nrm, if_true, if_false, ite_true, ite_false, true_and, and_true, and_self, and_false, false_and, or_true, true_or, or_false, false_or, or_self, ↓reduceIte, eq_self, Nat.reduceAdd, Nat.reduceMul, Nat.reduceSub, Nat.reduceDiv, Nat.reduceMod, Nat.zero_add, Nat.mul_zero, not_true_eq_false, not_false_eq_true, up_T, up_F, wr_T, wr_F, ngE, ngE', ngL, ngL', ngQ, ngQ', r13, r12, l52, b2F]
        · rw [up_s]
        · rw [up_F (by omega), up_F (by omega), up_F (by omega)]; exact r13
        · rw [up_F (by omega), up_F (by omega), up_s]
          unfold tkN
          dsimp only
          rw [if_neg (by omega), if_neg (by omega), if_neg (by omega), if_neg (by omega)]
        · rw [up_F (by omega), up_s]
        · dsimp only at q; omega
        · dsimp only at q; omega
        · dsimp only at h1 ⊢
          rw [up_F (by omega), up_F (by omega), up_F (by omega), r16, hE p (by omega) h2]
          omega
