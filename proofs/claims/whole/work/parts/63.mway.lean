/-! The reference's ways. -/
theorem s_M_of9 (d p c : Nat) (A : mm_A) (I : mm_I) (hR : RepR 0 A I) (g : Good A) (hp : p < A 0 0 0) (hc : c < 9) : Sn (d + 1) q_M_of9 [.inr (12, 0), .inl (nI p), .inl (nI c)] I = some (some (.inl (nI (A 1 p c))), (sh0, I)) := by
  have hn := g.1.1
  have h := hR.2.1 p c hp hc
  simp (disch := omega) only [n_M_of9, e_M_of9_0, lit, nad, nml, bd_s, ct_s, ct_n, a11, a01, aB2, bitA, nlt, nle, neq, dlT, dlF, deT, deF, dqT, dqF, nN, inb, nsb, ndv, nrm, if_true, if_false, ite_true, ite_false, true_and, and_true, and_self, and_false, false_and, or_true, true_or, or_false, false_or, or_self, reduceIte, eq_self, Nat.reduceAdd, Nat.reduceMul, Nat.reduceSub, Nat.reduceDiv, Nat.reduceMod, not_true_eq_false, not_false_eq_true, up_T, up_F, wr_T, wr_F, ngE, ngE', ngL, ngL', ngQ, ngQ', h]
theorem s_M_effortOf (d p : Nat) (A : mm_A) (I : mm_I) (hR : RepR 0 A I) (g : Good A) (hp : p < A 0 0 0) : Sn (d + 2) q_M_effortOf [.inr (12, 0), .inl (nI p)] I = some (some (.inl (nI (effF (A 1 p)))), (sh0, I)) := by
  have o := fun c (hc : c < 9) => s_M_of9 d p c A I hR g hp hc
  obtain ⟨g0, g1, g2, g3, g4, g5, g6, g7, g8, g9, g10, g11⟩ := g.2.2.1 p hp
  have he := s_M_effortBy d (A 1 p 8) (A 1 p 2) (A 1 p 3) (A 1 p 5) I (by omega) (by omega) (by omega) (by omega)
  simp (disch := omega) only [n_M_effortOf, e_M_effortOf_0, e_M_effortOf_1, e_M_effortOf_2, e_M_effortOf_3, e_M_effortOf_4, e_M_effortOf_5, lit, nad, nml, bd_s, ct_s, ct_n, b11, b01, o 8 (by decide), o 2 (by decide), o 3 (by decide), o 5 (by decide), he]
  rfl
theorem s_M_isOpen (d p x : Nat) (A : mm_A) (I : mm_I) (hR : RepR 0 A I) (g : Good A) (hp : p < A 0 0 0) (hz : ∀ p, p < 16 → (nI p = I 12 0 8 ↔ p = x)) : Sn (d + 2) q_M_isOpen [.inr (12, 0), .inl (nI p)] I = some (some (.inl (nI (b2 (op A x p)))), (sh0, I)) := by
  have hn := g.1.1
  have o := s_M_of9 d p 7 A I hR g hp (by decide)
  have hs1 : A 1 p 7 ≤ 1 := (g.2.2.1 p hp).2.2.2.2.2.2.2.2.2.2.1
  have hzp := hz p (by omega)
  by_cases e1 : A 1 p 7 = 0
  · by_cases e2 : p = x
    · rw [op_F (Or.inr e2)]
      simp (disch := omega) only [n_M_isOpen, e_M_isOpen_0, e_M_isOpen_1, e_M_isOpen_2, e_M_isOpen_3, e_M_isOpen_4, e_M_isOpen_5, lit, nad, nml, bd_s, ct_s, ct_n, a11, a01, aB2, bitA, nlt, nle, neq, dlT, dlF, deT, deF, dqT, dqF, nN, inb, nsb, ndv, nrm, if_true, if_false, ite_true, ite_false, true_and, and_true, and_self, and_false, false_and, or_true, true_or, or_false, false_or, or_self, reduceIte, eq_self, Nat.reduceAdd, Nat.reduceMul, Nat.reduceSub, Nat.reduceDiv, Nat.reduceMod, not_true_eq_false, not_false_eq_true, up_T, up_F, wr_T, wr_F, ngE, ngE', ngL, ngL', ngQ, ngQ', o, hzp, b2, Bool.false_eq_true]
    · rw [op_T e1 e2]
      simp (disch := omega) only [n_M_isOpen, e_M_isOpen_0, e_M_isOpen_1, e_M_isOpen_2, e_M_isOpen_3, e_M_isOpen_4, e_M_isOpen_5, lit, nad, nml, bd_s, ct_s, ct_n, a11, a01, aB2, bitA, nlt, nle, neq, dlT, dlF, deT, deF, dqT, dqF, nN, inb, nsb, ndv, nrm, if_true, if_false, ite_true, ite_false, true_and, and_true, and_self, and_false, false_and, or_true, true_or, or_false, false_or, or_self, reduceIte, eq_self, Nat.reduceAdd, Nat.reduceMul, Nat.reduceSub, Nat.reduceDiv, Nat.reduceMod, not_true_eq_false, not_false_eq_true, up_T, up_F, wr_T, wr_F, ngE, ngE', ngL, ngL', ngQ, ngQ', o, hzp, b2, Bool.false_eq_true]
  · rw [op_F (Or.inl e1)]
    simp (disch := omega) only [n_M_isOpen, e_M_isOpen_0, e_M_isOpen_1, e_M_isOpen_2, e_M_isOpen_3, e_M_isOpen_4, e_M_isOpen_5, lit, nad, nml, bd_s, ct_s, ct_n, a11, a01, aB2, bitA, nlt, nle, neq, dlT, dlF, deT, deF, dqT, dqF, nN, inb, nsb, ndv, nrm, if_true, if_false, ite_true, ite_false, true_and, and_true, and_self, and_false, false_and, or_true, true_or, or_false, false_or, or_self, reduceIte, eq_self, Nat.reduceAdd, Nat.reduceMul, Nat.reduceSub, Nat.reduceDiv, Nat.reduceMod, not_true_eq_false, not_false_eq_true, up_T, up_F, wr_T, wr_F, ngE, ngE', ngL, ngL', ngQ, ngQ', o, hzp, b2, Bool.false_eq_true]
def LF (I : mm_I) (z : Nat → Bool) (l f : Nat → Nat) : Prop := ∀ c, c < 10 → I 48 0 c = (if z c = true then nI (l c) else -nI 1) ∧ I 49 0 c = nI (f c)
theorem s_M_reaches (d j : Nat) (A : mm_A) (I : mm_I) (z : Nat → Bool) (l f : Nat → Nat) (hR : RepR 0 A I) (g : Good A) (hj : j < 2 * A 0 0 0) (hL : LF I z l f) (hl : ∀ c, c < 10 → z c = true → l c ≤ 1000000 ∧ f c ≤ 1000000) : Sn (d + 3) q_M_reaches [.inr (12, 0), .inl (nI (j / 2)), .inl (nI (di A j)), .inl (nI (dj A j))] I = some (some (.inl (nI (b2 (rsB A j z l f)))), (sh0, if rsB A j z l f = true then mm_up (mm_up I 48 0 (di A j) (nI (effF (A 1 (j / 2)) + l (dj A j)))) 49 0 (di A j) (nI (1 + f (dj A j))) else I)) := by
  have gE := GE_of g
  have hq : j / 2 < A 0 0 0 := by omega
  obtain ⟨i1, i2, -⟩ := jn_lt gE hq (dij (A := A) j)
  have he := s_M_effortOf d (j / 2) A I hR g hq
  have eb := gE.2 _ hq
  obtain ⟨a1, a2⟩ := hL _ i1
  obtain ⟨b1, b2'⟩ := hL _ i2
  have c1 := hl _ i1
  have c2 := hl _ i2
  unfold rsB
  generalize di A j = a at *
  generalize dj A j = b at *
  generalize effF (A 1 (j / 2)) = ef at *
  generalize j / 2 = q at *
  cases hb : z b with
  | false =>
    simp only [hb, Bool.false_eq_true, if_false] at b1
    simp (disch := omega) only [n_M_reaches, e_M_reaches_0, e_M_reaches_1, lit, nad, nml, bd_s, ct_s, ct_n, a11, a01, aB2, bitA, nlt, nle, neq, dlT, dlF, deT, deF, dqT, dqF, nN, inb, nsb, ndv, nrm, if_true, if_false, ite_true, ite_false, true_and, and_true, and_self, and_false, false_and, or_true, true_or, or_false, false_or, or_self, reduceIte, eq_self, Nat.reduceAdd, Nat.reduceMul, Nat.reduceSub, Nat.reduceDiv, Nat.reduceMod, not_true_eq_false, not_false_eq_true, up_T, up_F, wr_T, wr_F, ngE, ngE', ngL, ngL', ngQ, ngQ', b1, Bool.false_and, b2, Bool.false_eq_true]
  | true =>
    obtain ⟨c3, c4⟩ := c2 hb
    simp only [hb, if_true] at b1
    cases ha : z a with
    | false =>
      simp only [ha, Bool.false_eq_true, if_false] at a1
      simp (disch := omega) only [n_M_reaches, e_M_reaches_0, e_M_reaches_2, e_M_reaches_3, e_M_reaches_7, lit, nad, nml, bd_s, ct_s, ct_n, a11, a01, aB2, bitA, nlt, nle, neq, dlT, dlF, deT, deF, dqT, dqF, nN, inb, nsb, ndv, nrm, if_true, if_false, ite_true, ite_false, true_and, and_true, and_self, and_false, false_and, or_true, true_or, or_false, false_or, or_self, reduceIte, eq_self, Nat.reduceAdd, Nat.reduceMul, Nat.reduceSub, Nat.reduceDiv, Nat.reduceMod, not_true_eq_false, not_false_eq_true, up_T, up_F, wr_T, wr_F, ngE, ngE', ngL, ngL', ngQ, ngQ', b1, b2', a1, he, Bool.true_and, Bool.not_false, Bool.true_or, b2]
    | true =>
      obtain ⟨c5, c6⟩ := c1 ha
      simp only [ha, if_true] at a1
      by_cases e1 : ef + l b < l a
      · simp (disch := omega) only [n_M_reaches, e_M_reaches_0, e_M_reaches_2, e_M_reaches_3, e_M_reaches_4, e_M_reaches_7, lit, nad, nml, bd_s, ct_s, ct_n, a11, a01, aB2, bitA, nlt, nle, neq, dlT, dlF, deT, deF, dqT, dqF, nN, inb, nsb, ndv, nrm, if_true, if_false, ite_true, ite_false, true_and, and_true, and_self, and_false, false_and, or_true, true_or, or_false, false_or, or_self, reduceIte, eq_self, Nat.reduceAdd, Nat.reduceMul, Nat.reduceSub, Nat.reduceDiv, Nat.reduceMod, not_true_eq_false, not_false_eq_true, up_T, up_F, wr_T, wr_F, ngE, ngE', ngL, ngL', ngQ, ngQ', b1, b2', a1, he, Bool.true_and, Bool.not_true, Bool.false_or, Bool.true_or, decide_true, b2]
      · by_cases e2 : ef + l b = l a
        · by_cases e3 : 1 + f b < f a
          · simp (disch := omega) only [n_M_reaches, e_M_reaches_0, e_M_reaches_2, e_M_reaches_3, e_M_reaches_4, e_M_reaches_5, e_M_reaches_6, e_M_reaches_7, lit, nad, nml, bd_s, ct_s, ct_n, a11, a01, aB2, bitA, nlt, nle, neq, dlT, dlF, deT, deF, dqT, dqF, nN, inb, nsb, ndv, nrm, if_true, if_false, ite_true, ite_false, true_and, and_true, and_self, and_false, false_and, or_true, true_or, or_false, false_or, or_self, reduceIte, eq_self, Nat.reduceAdd, Nat.reduceMul, Nat.reduceSub, Nat.reduceDiv, Nat.reduceMod, not_true_eq_false, not_false_eq_true, up_T, up_F, wr_T, wr_F, ngE, ngE', ngL, ngL', ngQ, ngQ', b1, b2', a1, a2, he, Bool.true_and, Bool.not_true, Bool.false_or, Bool.true_or, decide_true, decide_false, b2]
          · simp (disch := omega) only [n_M_reaches, e_M_reaches_0, e_M_reaches_2, e_M_reaches_3, e_M_reaches_4, e_M_reaches_5, e_M_reaches_6, e_M_reaches_8, lit, nad, nml, bd_s, ct_s, ct_n, a11, a01, aB2, bitA, nlt, nle, neq, dlT, dlF, deT, deF, dqT, dqF, nN, inb, nsb, ndv, nrm, if_true, if_false, ite_true, ite_false, true_and, and_true, and_self, and_false, false_and, or_true, true_or, or_false, false_or, or_self, reduceIte, eq_self, Nat.reduceAdd, Nat.reduceMul, Nat.reduceSub, Nat.reduceDiv, Nat.reduceMod, not_true_eq_false, not_false_eq_true, up_T, up_F, wr_T, wr_F, ngE, ngE', ngL, ngL', ngQ, ngQ', b1, b2', a1, a2, he, Bool.true_and, Bool.not_true, Bool.false_or, Bool.true_or, decide_true, decide_false, b2, Bool.false_eq_true]
        · simp (disch := omega) only [n_M_reaches, e_M_reaches_0, e_M_reaches_2, e_M_reaches_3, e_M_reaches_4, e_M_reaches_5, e_M_reaches_8, lit, nad, nml, bd_s, ct_s, ct_n, a11, a01, aB2, bitA, nlt, nle, neq, dlT, dlF, deT, deF, dqT, dqF, nN, inb, nsb, ndv, nrm, if_true, if_false, ite_true, ite_false, true_and, and_true, and_self, and_false, false_and, or_true, true_or, or_false, false_or, or_self, reduceIte, eq_self, Nat.reduceAdd, Nat.reduceMul, Nat.reduceSub, Nat.reduceDiv, Nat.reduceMod, not_true_eq_false, not_false_eq_true, up_T, up_F, wr_T, wr_F, ngE, ngE', ngL, ngL', ngQ, ngQ', b1, b2', a1, a2, he, Bool.true_and, Bool.not_true, Bool.false_or, Bool.true_or, decide_true, decide_false, Bool.false_and, b2, Bool.false_eq_true]
theorem LF_rs {A : mm_A} {I : mm_I} {z : Nat → Bool} {l f : Nat → Nat} {j : Nat} (hL : LF I z l f) : LF (if rsB A j z l f = true then mm_up (mm_up I 48 0 (di A j) (nI (effF (A 1 (j / 2)) + l (dj A j)))) 49 0 (di A j) (nI (1 + f (dj A j))) else I) (rsZ A j z l f) (rsL A j z l f) (rsF A j z l f) := by
  unfold rsZ rsL rsF
  by_cases e : rsB A j z l f = true
  · simp only [e, if_true]
    intro c hc
    by_cases q : c = di A j
    · subst q
      rw [up_F (by omega), up_s, up_s, uN_s, uN_s]
      unfold uNB
      simp
    · rw [up_F (by omega), up_F (by omega), up_F (by omega), up_F (by omega), uN_n q, uN_n q]
      unfold uNB
      rw [if_neg q]
      exact hL c hc
  · simp only [e, if_false]
    exact hL
theorem rs_eqo {A : mm_A} {I K : mm_I} {z : Nat → Bool} {l f : Nat → Nat} {j : Nat} (h : eqo [48, 49] I K) : eqo [48, 49] I (if rsB A j z l f = true then mm_up (mm_up K 48 0 (di A j) (nI (effF (A 1 (j / 2)) + l (dj A j)))) 49 0 (di A j) (nI (1 + f (dj A j))) else K) := by
  split
  · exact eqo_up (eqo_up h (by decide)) (by decide)
  · exact h
theorem b2_or (a b : Bool) : (if nI (b2 a) = nI 0 then (if nI (b2 b) = nI 0 then nI 0 else nI 1) else nI 1) = nI (b2 (b || a)) := by cases a <;> cases b <;> rfl
theorem s_M_isNext (d p x to a : Nat) (A : mm_A) (I : mm_I) (z : Nat → Bool) (l f : Nat → Nat) (hR : RepR 0 A I) (g : Good A) (hp : p < A 0 0 0) (ha : a < 10) (hr : rch A x to a) (hz : ∀ p, p < 16 → (nI p = I 12 0 8 ↔ p = x)) (hL : LF I z l f) (hx : ∀ c, c < 10 → (z c = true ↔ rch A x to c) ∧ (rch A x to c → exR A x to z l f c)) : Sn (d + 3) q_M_isNext [.inr (12, 0), .inl (nI p), .inl (nI a)] I = some (some (.inl (nI (b2 (nxB A x to a p)))), (sh0, I)) := by
  have gE := GE_of g
  have hn := g.1.1
  have ho := s_M_isOpen d p x A I hR g hp hz
  have o0 := s_M_of9 (d + 1) p 0 A I hR g hp (by decide)
  have o1 := s_M_of9 (d + 1) p 1 A I hR g hp (by decide)
  have he := s_M_effortOf d p A I hR g hp
  have eb := gE.2 p hp
  unfold nxB
  cases hop : op A x p with
  | false =>
    rw [hop] at ho
    simp (disch := omega) only [n_M_isNext, e_M_isNext_0, e_M_isNext_1, e_M_isNext_6, lit, nad, nml, bd_s, ct_s, ct_n, a11, a01, aB2, bitA, nlt, nle, neq, dlT, dlF, deT, deF, dqT, dqF, nN, inb, nsb, ndv, nrm, if_true, if_false, ite_true, ite_false, true_and, and_true, and_self, and_false, false_and, or_true, true_or, or_false, false_or, or_self, reduceIte, eq_self, Nat.reduceAdd, Nat.reduceMul, Nat.reduceSub, Nat.reduceDiv, Nat.reduceMod, not_true_eq_false, not_false_eq_true, up_T, up_F, wr_T, wr_F, ngE, ngE', ngL, ngL', ngQ, ngQ', ho, b2, Bool.false_and, Bool.false_eq_true]
  | true =>
    rw [hop] at ho
    by_cases e1 : A 1 p 0 = a ∨ A 1 p 1 = a
    · have jq : jn A p a (if A 1 p 0 = a then A 1 p 1 else A 1 p 0) := by
        by_cases e : A 1 p 0 = a
        · rw [if_pos e]; exact Or.inl ⟨e, rfl⟩
        · rw [if_neg e]; exact Or.inr ⟨rfl, e1.resolve_left e⟩
      have o10 := (jn_lt gE hp jq).2.1
      have ro := rch_j (to := to) hp hop (jn_sy jq) hr
      obtain ⟨x1, x2, x3⟩ := (hx _ o10).2 ro
      obtain ⟨y1, y2, y3⟩ := (hx _ ha).2 hr
      obtain ⟨l1, l2⟩ := hL _ o10
      obtain ⟨l3, l4⟩ := hL _ ha
      rw [x1, x2] at l1
      rw [y1, y2] at l3
      rw [x3] at l2
      rw [y3] at l4
      simp only [if_true] at l1 l3
      have b1 := ds_b gE o10 ro
      have b3 := ds_b gE ha hr
      have key : (A 1 p 0 == a || A 1 p 1 == a) = true := by simp [e1]
      have k1 : Sn (d + 3) q_M_isNext [.inr (12, 0), .inl (nI p), .inl (nI a)] I = Rn (d + 2) q_M_isNext 12 [some (.inr (12, 0)), some (.inl (nI p)), some (.inl (nI a)), none] [.inl (nI (if A 1 p 0 = a then A 1 p 1 else A 1 p 0))] I := by
        by_cases e : A 1 p 0 = a
        · simp (disch := omega) only [n_M_isNext, e_M_isNext_0, e_M_isNext_1, e_M_isNext_2, e_M_isNext_3, e_M_isNext_7, e_M_isNext_8, e_M_isNext_9, e_M_isNext_10, lit, nad, nml, bd_s, ct_s, ct_n, a11, a01, aB2, bitA, nlt, nle, neq, dlT, dlF, deT, deF, dqT, dqF, nN, inb, nsb, ndv, nrm, if_true, if_false, ite_true, ite_false, true_and, and_true, and_self, and_false, false_and, or_true, true_or, or_false, false_or, or_self, reduceIte, eq_self, Nat.reduceAdd, Nat.reduceMul, Nat.reduceSub, Nat.reduceDiv, Nat.reduceMod, not_true_eq_false, not_false_eq_true, up_T, up_F, wr_T, wr_F, ngE, ngE', ngL, ngL', ngQ, ngQ', ho, o0, o1, b2]
        · have e2 := e1.resolve_left e
          simp (disch := omega) only [n_M_isNext, e_M_isNext_0, e_M_isNext_1, e_M_isNext_2, e_M_isNext_3, e_M_isNext_4, e_M_isNext_5, e_M_isNext_7, e_M_isNext_8, e_M_isNext_11, lit, nad, nml, bd_s, ct_s, ct_n, a11, a01, aB2, bitA, nlt, nle, neq, dlT, dlF, deT, deF, dqT, dqF, nN, inb, nsb, ndv, nrm, if_true, if_false, ite_true, ite_false, true_and, and_true, and_self, and_false, false_and, or_true, true_or, or_false, false_or, or_self, reduceIte, eq_self, Nat.reduceAdd, Nat.reduceMul, Nat.reduceSub, Nat.reduceDiv, Nat.reduceMod, not_true_eq_false, not_false_eq_true, up_T, up_F, wr_T, wr_F, ngE, ngE', ngL, ngL', ngQ, ngQ', ho, o0, o1, b2]
      rw [k1, key, Bool.true_and, Bool.true_and]
      generalize (if A 1 p 0 = a then A 1 p 1 else A 1 p 0) = o at *
      have hwt : wt A p = 16 * effF (A 1 p) + 1 := rfl
      by_cases e2 : ds A x to o + wt A p = ds A x to a
      · have e3 : effF (A 1 p) + dE A x to o = dE A x to a := by unfold dE; omega
        have e4 : 1 + dM A x to o = dM A x to a := by unfold dM; omega
        have b4 : dE A x to a ≤ 30000 := by unfold dE; omega
        have b5 : dM A x to a ≤ 9 := b3.1
        simp (disch := omega) only [e_M_isNext_12, e_M_isNext_13, e_M_isNext_14, e_M_isNext_15, e_M_isNext_16, e_M_isNext_18, lit, nad, nml, bd_s, ct_s, ct_n, a11, a01, aB2, bitA, nlt, nle, neq, dlT, dlF, deT, deF, dqT, dqF, nN, inb, nsb, ndv, nrm, if_true, if_false, ite_true, ite_false, true_and, and_true, and_self, and_false, false_and, or_true, true_or, or_false, false_or, or_self, reduceIte, eq_self, Nat.reduceAdd, Nat.reduceMul, Nat.reduceSub, Nat.reduceDiv, Nat.reduceMod, not_true_eq_false, not_false_eq_true, up_T, up_F, wr_T, wr_F, ngE, ngE', ngL, ngL', ngQ, ngQ', he, l1, l2, l3, l4, e2, beq_self_eq_true, b2]
      · have b4 : dE A x to a ≤ 30000 := by unfold dE; omega
        have b5 : dM A x to a ≤ 9 := b3.1
        have b6 : dE A x to o ≤ 30000 := by unfold dE; omega
        have b7 : dM A x to o ≤ 9 := b1.1
        have e5 : (ds A x to o + wt A p == ds A x to a) = false := by simp [e2]
        rw [e5]
        by_cases e3 : effF (A 1 p) + dE A x to o = dE A x to a
        · have e4 : 1 + dM A x to o ≠ dM A x to a := by unfold dE at e3; unfold dM; omega
          simp (disch := omega) only [e_M_isNext_12, e_M_isNext_13, e_M_isNext_14, e_M_isNext_15, e_M_isNext_17, e_M_isNext_18, lit, nad, nml, bd_s, ct_s, ct_n, a11, a01, aB2, bitA, nlt, nle, neq, dlT, dlF, deT, deF, dqT, dqF, nN, inb, nsb, ndv, nrm, if_true, if_false, ite_true, ite_false, true_and, and_true, and_self, and_false, false_and, or_true, true_or, or_false, false_or, or_self, reduceIte, eq_self, Nat.reduceAdd, Nat.reduceMul, Nat.reduceSub, Nat.reduceDiv, Nat.reduceMod, not_true_eq_false, not_false_eq_true, up_T, up_F, wr_T, wr_F, ngE, ngE', ngL, ngL', ngQ, ngQ', he, l1, l2, l3, l4, b2, Bool.false_eq_true]
        · simp (disch := omega) only [e_M_isNext_12, e_M_isNext_13, e_M_isNext_14, e_M_isNext_17, e_M_isNext_18, lit, nad, nml, bd_s, ct_s, ct_n, a11, a01, aB2, bitA, nlt, nle, neq, dlT, dlF, deT, deF, dqT, dqF, nN, inb, nsb, ndv, nrm, if_true, if_false, ite_true, ite_false, true_and, and_true, and_self, and_false, false_and, or_true, true_or, or_false, false_or, or_self, reduceIte, eq_self, Nat.reduceAdd, Nat.reduceMul, Nat.reduceSub, Nat.reduceDiv, Nat.reduceMod, not_true_eq_false, not_false_eq_true, up_T, up_F, wr_T, wr_F, ngE, ngE', ngL, ngL', ngQ, ngQ', he, l1, l2, l3, l4, b2, Bool.false_eq_true]
    · have key : (A 1 p 0 == a || A 1 p 1 == a) = false := by
        simp only [not_or] at e1
        simp [e1.1, e1.2]
      have e2 : A 1 p 0 ≠ a := fun q => e1 (Or.inl q)
      have e3 : A 1 p 1 ≠ a := fun q => e1 (Or.inr q)
      simp (disch := omega) only [n_M_isNext, e_M_isNext_0, e_M_isNext_1, e_M_isNext_2, e_M_isNext_3, e_M_isNext_4, e_M_isNext_5, e_M_isNext_6, lit, nad, nml, bd_s, ct_s, ct_n, a11, a01, aB2, bitA, nlt, nle, neq, dlT, dlF, deT, deF, dqT, dqF, nN, inb, nsb, ndv, nrm, if_true, if_false, ite_true, ite_false, true_and, and_true, and_self, and_false, false_and, or_true, true_or, or_false, false_or, or_self, reduceIte, eq_self, Nat.reduceAdd, Nat.reduceMul, Nat.reduceSub, Nat.reduceDiv, Nat.reduceMod, not_true_eq_false, not_false_eq_true, up_T, up_F, wr_T, wr_F, ngE, ngE', ngL, ngL', ngQ, ngQ', ho, o0, o1, b2, key, Bool.true_and, Bool.false_and, Bool.false_eq_true]
/-- of the reference's own fields only number s has changed -/
def ex12 (s : Nat) (I I' : mm_I) : Prop := ∀ j, j ≠ s → I' 12 0 j = I 12 0 j
theorem s_M_findWay (d t x : Nat) (A : mm_A) (I : mm_I) (hR : RepR 0 A I) (g : Good A) (ht : t < A 0 0 1) (hz : ∀ p, p < 16 → (nI p = I 12 0 8 ↔ p = x)) : ∃ I', Sn (d + 4) q_M_findWay [.inr (12, 0), .inl (nI t)] I = some (some (.inl (nI (if ds A x (A 4 t 1) (A 4 t 0) < 536870912 then 1 else 0))), (sh0, I')) ∧ eqo [12, 48, 49, 50] I I' ∧ ex12 7 I I' ∧ (ds A x (A 4 t 1) (A 4 t 0) < 536870912 → I' 12 0 7 = nI (dM A x (A 4 t 1) (A 4 t 0)) ∧ I' 48 0 (A 4 t 0) = nI (dE A x (A 4 t 1) (A 4 t 0)) ∧ ∀ k, k < dM A x (A 4 t 1) (A 4 t 0) → I' 50 0 k = nI (wp A x (A 4 t 1) (A 4 t 0) k)) := by
  have hN := g.1.1
  have gE := GE_of g
  have hT12 : A 0 0 1 ≤ 12 := g.2.1 0 (by decide)
  obtain ⟨g0, g1, g2, g3⟩ := trG g ht
  have t0 : I 47 0 (156 + 3 * t) = nI (A 4 t 0) := hR.2.2.2.2 0 t 0 (by decide) ht (by decide)
  have t1 : I 47 0 (156 + 3 * t + 1) = nI (A 4 t 1) := hR.2.2.2.2 0 t 1 (by decide) ht (by decide)
  have hR0 : I 47 0 0 = nI (A 0 0 0) := hR.1 0 (by decide)
  generalize A 4 t 0 = fr at *
  generalize A 4 t 1 = to at *
  have hf : fr < 10 := by omega
  have htt : to < 10 := by omega
  have k0 : Sn (d + 4) q_M_findWay [.inr (12, 0), .inl (nI t)] I = Rn (d + 3) q_M_findWay 1 [some (.inr (12, 0)), some (.inl (nI t)), some (.inl (nI fr)), some (.inl (nI to)), some (.inl (nI 0)), none, none] [] I := by
    simp (disch := omega) only [n_M_findWay, e_M_findWay_0, lit, nad, nml, bd_s, ct_s, ct_n, a11, a01, aB2, bitA, nlt, nle, neq, dlT, dlF, deT, deF, dqT, dqF, nN, inb, nsb, ndv, nrm, if_true, if_false, ite_true, ite_false, true_and, and_true, and_self, and_false, false_and, or_true, true_or, or_false, false_or, or_self, reduceIte, eq_self, Nat.reduceAdd, Nat.reduceMul, Nat.reduceSub, Nat.reduceDiv, Nat.reduceMod, not_true_eq_false, not_false_eq_true, up_T, up_F, wr_T, wr_F, ngE, ngE', ngL, ngL', ngQ, ngQ', t0, t1]
  rw [k0]
  have l1 := lpX (n := 10) (σ := mm_I) (fun i s => Rn (d + 3) q_M_findWay 1 [some (.inr (12, 0)), some (.inl (nI t)), some (.inl (nI fr)), some (.inl (nI to)), some (.inl (nI i)), none, none] [] s) (fun i s => eqo [48, 49] I s ∧ ∀ c, c < i → s 48 0 c = (if c = to then nI 0 else -nI 1) ∧ s 49 0 c = nI 0) (fun q => ∃ J, (eqo [48, 49] I J ∧ LF J (fun c => decide (c = to)) (fun _ => 0) (fun _ => 0)) ∧ q = Rn (d + 3) q_M_findWay 7 [some (.inr (12, 0)), some (.inl (nI t)), some (.inl (nI fr)), some (.inl (nI to)), some (.inl (nI 1)), none, none] [] J) (by
    rintro i s hi ⟨s1, s2⟩
    refine Or.inr ⟨mm_up (mm_up s 48 0 i (if i = to then nI 0 else -nI 1)) 49 0 i (nI 0), ⟨eqo_up (eqo_up s1 (by decide)) (by decide), fun c hc => ?_⟩, ?_⟩
    · by_cases q : c = i
      · rw [q, up_F (by omega), up_s, up_s]; exact ⟨rfl, rfl⟩
      · rw [up_F (by omega), up_F (by omega), up_F (by omega), up_F (by omega)]
        exact s2 c (by omega)
    · by_cases q : i = to <;> simp (disch := omega) only [e_M_findWay_2, e_M_findWay_3, e_M_findWay_4, e_M_findWay_5, e_M_findWay_1 (x4 := nI i), lit, nad, nml, bd_s, ct_s, ct_n, a11, a01, aB2, bitA, nlt, nle, neq, dlT, dlF, deT, deF, dqT, dqF, nN, inb, nsb, ndv, nrm, if_true, if_false, ite_true, ite_false, true_and, and_true, and_self, and_false, false_and, or_true, true_or, or_false, false_or, or_self, reduceIte, eq_self, Nat.reduceAdd, Nat.reduceMul, Nat.reduceSub, Nat.reduceDiv, Nat.reduceMod, not_true_eq_false, not_false_eq_true, up_T, up_F, wr_T, wr_F, ngE, ngE', ngL, ngL', ngQ, ngQ']) (by
    rintro s ⟨s1, s2⟩
    refine ⟨s, ⟨s1, fun c hc => ?_⟩, ?_⟩
    · have := s2 c hc
      by_cases q : c = to
      · rw [if_pos q] at this; simp only [q, decide_true, if_true]; rw [q] at this; exact this
      · rw [if_neg q] at this; simp only [q, decide_false, Bool.false_eq_true, if_false]; exact this
    · simp (disch := omega) only [e_M_findWay_1, e_M_findWay_6, lit, nad, nml, bd_s, ct_s, ct_n, a11, a01, aB2, bitA, nlt, nle, neq, dlT, dlF, deT, deF, dqT, dqF, nN, inb, nsb, ndv, nrm, if_true, if_false, ite_true, ite_false, true_and, and_true, and_self, and_false, false_and, or_true, true_or, or_false, false_or, or_self, reduceIte, eq_self, Nat.reduceAdd, Nat.reduceMul, Nat.reduceSub, Nat.reduceDiv, Nat.reduceMod, not_true_eq_false, not_false_eq_true, up_T, up_F, wr_T, wr_F, ngE, ngE', ngL, ngL', ngQ, ngQ']) 0 I (Nat.zero_le _) ⟨eqo_rf _ _, fun c hc => by omega⟩
  obtain ⟨J0, ⟨j1, j2⟩, k1⟩ := l1
  rw [k1]
  have l2 := lpX (n := 10) (σ := mm_I × Bool × Option mm_V) (fun r s => Rn (d + 3) q_M_findWay 7 [some (.inr (12, 0)), some (.inl (nI t)), some (.inl (nI fr)), some (.inl (nI to)), some (.inl (nI (b2 s.2.1))), s.2.2, none] [] s.1) (fun r s => eqo [48, 49] I s.1 ∧ (r = 10 → s.2.1 = false) ∧ ∃ z l f, LF s.1 z l f ∧ ((s.2.1 = true ∧ rV A x to r 0 false z l f) ∨ (s.2.1 = false ∧ ∀ c, c < 10 → (z c = true ↔ rch A x to c) ∧ (rch A x to c → exR A x to z l f c)))) (fun q => ∃ J v z l f, eqo [48, 49] I J ∧ LF J z l f ∧ (∀ c, c < 10 → (z c = true ↔ rch A x to c) ∧ (rch A x to c → exR A x to z l f c)) ∧ q = Rn (d + 3) q_M_findWay 29 [some (.inr (12, 0)), some (.inl (nI t)), some (.inl (nI fr)), some (.inl (nI to)), some (.inl (nI 0)), v, none] [] J) (by
    rintro r ⟨J, b, v⟩ hr ⟨hJ, h10, z, l, f, hL, hV⟩
    dsimp only at hJ hL hV h10 ⊢
    rcases hV with ⟨hb, hV⟩ | ⟨hb, hV⟩
    · right
      subst hb
      have hgo : Rn (d + 3) q_M_findWay 7 [some (.inr (12, 0)), some (.inl (nI t)), some (.inl (nI fr)), some (.inl (nI to)), some (.inl (nI (b2 true))), v, none] [] J = Rn (d + 3) q_M_findWay 9 [some (.inr (12, 0)), some (.inl (nI t)), some (.inl (nI fr)), some (.inl (nI to)), some (.inl (nI (b2 false))), some (.inl (nI 0)), none] [] J := by
        simp (disch := omega) only [e_M_findWay_7, e_M_findWay_8, b2, lit, nad, nml, bd_s, ct_s, ct_n, a11, a01, aB2, bitA, nlt, nle, neq, dlT, dlF, deT, deF, dqT, dqF, nN, inb, nsb, ndv, nrm, if_true, if_false, ite_true, ite_false, true_and, and_true, and_self, and_false, false_and, or_true, true_or, or_false, false_or, or_self, reduceIte, eq_self, Nat.reduceAdd, Nat.reduceMul, Nat.reduceSub, Nat.reduceDiv, Nat.reduceMod, not_true_eq_false, not_false_eq_true, up_T, up_F, wr_T, wr_F, ngE, ngE', ngL, ngL', ngQ, ngQ', Bool.false_eq_true]
      rw [hgo]
      refine lpX (n := A 0 0 0) (σ := mm_I × Bool) (fun i s => Rn (d + 3) q_M_findWay 9 [some (.inr (12, 0)), some (.inl (nI t)), some (.inl (nI fr)), some (.inl (nI to)), some (.inl (nI (b2 s.2))), some (.inl (nI i)), none] [] s.1) (fun i s => eqo [48, 49] I s.1 ∧ ∃ z l f, LF s.1 z l f ∧ rV A x to r (2 * i) s.2 z l f) (fun q => ∃ s' : mm_I × Bool × Option mm_V, (eqo [48, 49] I s'.1 ∧ (r + 1 = 10 → s'.2.1 = false) ∧ ∃ z l f, LF s'.1 z l f ∧ ((s'.2.1 = true ∧ rV A x to (r + 1) 0 false z l f) ∨ (s'.2.1 = false ∧ ∀ c, c < 10 → (z c = true ↔ rch A x to c) ∧ (rch A x to c → exR A x to z l f c)))) ∧ q = Rn (d + 3) q_M_findWay 7 [some (.inr (12, 0)), some (.inl (nI t)), some (.inl (nI fr)), some (.inl (nI to)), some (.inl (nI (b2 s'.2.1))), s'.2.2, none] [] s'.1) ?_ ?_ 0 (J, false) (Nat.zero_le _) ⟨hJ, z, l, f, hL, hV⟩
      · rintro i ⟨K, b⟩ hi ⟨hK, z, l, f, hL, hV⟩
        dsimp only at hK hL hV ⊢
        have hRK : RepR 0 A K := RepR_o hR (by rw [hK 47 (by decide)])
        have hK0 : K 47 0 0 = nI (A 0 0 0) := hRK.1 0 (by decide)
        have o0 := s_M_of9 (d + 2) i 0 A K hRK g hi (by decide)
        have o1 := s_M_of9 (d + 2) i 1 A K hRK g hi (by decide)
        have ho := s_M_isOpen (d + 1) i x A K hRK g hi (fun p hp => by rw [hK 12 (by decide)]; exact hz p hp)
        right
        cases hop : op A x i with
        | false =>
          rw [hop] at ho
          refine ⟨(K, b), ⟨hK, z, l, f, hL, ?_⟩, ?_⟩
          · have a1 := rV_shut hV (by rw [show 2 * i / 2 = i by omega]; exact hop)
            have a2 := rV_shut a1 (by rw [show (2 * i + 1) / 2 = i by omega]; exact hop)
            exact a2
          · dsimp only
            simp (disch := omega) only [e_M_findWay_10, e_M_findWay_11, e_M_findWay_27, e_M_findWay_9 (x5 := nI i), hK0, ho, lit, nad, nml, bd_s, ct_s, ct_n, a11, a01, aB2, bitA, nlt, nle, neq, dlT, dlF, deT, deF, dqT, dqF, nN, inb, nsb, ndv, nrm, if_true, if_false, ite_true, ite_false, true_and, and_true, and_self, and_false, false_and, or_true, true_or, or_false, false_or, or_self, reduceIte, eq_self, Nat.reduceAdd, Nat.reduceMul, Nat.reduceSub, Nat.reduceDiv, Nat.reduceMod, not_true_eq_false, not_false_eq_true, up_T, up_F, wr_T, wr_F, ngE, ngE', ngL, ngL', ngQ, ngQ', show b2 false = 0 from rfl]
        | true =>
          rw [hop] at ho
          have q0 : 2 * i / 2 = i := by omega
          have q1 : (2 * i + 1) / 2 = i := by omega
          have d0 : di A (2 * i) = A 1 i 0 := by unfold di; rw [q0, show 2 * i % 2 = 0 by omega]
          have d1 : dj A (2 * i) = A 1 i 1 := by unfold dj; rw [q0, show 2 * i % 2 = 0 by omega]
          have d2 : di A (2 * i + 1) = A 1 i 1 := by unfold di; rw [q1, show (2 * i + 1) % 2 = 1 by omega]
          have d3 : dj A (2 * i + 1) = A 1 i 0 := by unfold dj; rw [q1, show (2 * i + 1) % 2 = 1 by omega]
          have r1 := s_M_reaches d (2 * i) A K z l f hRK g (by omega) hL (fun c hc hzc => by have := hV.1 c hc hzc; omega)
          have a1 := rV_step gE hV (by omega) (by rw [q0]; exact hop)
          have L1 := LF_rs (A := A) (j := 2 * i) hL
          have K1 := rs_eqo (A := A) (z := z) (l := l) (f := f) (j := 2 * i) hK
          rw [d0, d1, q0] at r1
          rw [d0, d1, q0] at L1 K1
          generalize rsB A (2 * i) z l f = B1 at *
          generalize rsZ A (2 * i) z l f = z1 at *
          generalize rsL A (2 * i) z l f = l1 at *
          generalize rsF A (2 * i) z l f = f1 at *
          generalize (if B1 = true then mm_up (mm_up K 48 0 (A 1 i 0) (nI (effF (A 1 i) + l (A 1 i 1)))) 49 0 (A 1 i 0) (nI (1 + f (A 1 i 1))) else K) = KK at *
          have hRK1 : RepR 0 A KK := RepR_o hR (by rw [K1 47 (by decide)])
          have o2 := s_M_of9 (d + 2) i 0 A KK hRK1 g hi (by decide)
          have o3 := s_M_of9 (d + 2) i 1 A KK hRK1 g hi (by decide)
          have r2 := s_M_reaches d (2 * i + 1) A KK z1 l1 f1 hRK1 g (by omega) L1 (fun c hc hzc => by have := a1.1 c hc hzc; omega)
          have a2 := rV_step gE a1 (by omega) (by rw [q1]; exact hop)
          have L2 := LF_rs (A := A) (j := 2 * i + 1) L1
          have K2 := rs_eqo (A := A) (z := z1) (l := l1) (f := f1) (j := 2 * i + 1) K1
          rw [d2, d3, q1] at r2
          rw [d2, d3, q1] at L2 K2
          generalize rsB A (2 * i + 1) z1 l1 f1 = B2 at *
          generalize (if B2 = true then mm_up (mm_up KK 48 0 (A 1 i 1) (nI (effF (A 1 i) + l1 (A 1 i 0)))) 49 0 (A 1 i 1) (nI (1 + f1 (A 1 i 0))) else KK) = KL at *
          refine ⟨(KL, b || B1 || B2), ⟨K2, _, _, _, L2, a2⟩, ?_⟩
          dsimp only
          cases B1 <;> cases B2 <;> cases b <;> simp (disch := omega) only [e_M_findWay_10, e_M_findWay_11, e_M_findWay_12, e_M_findWay_13, e_M_findWay_14, e_M_findWay_15, e_M_findWay_16, e_M_findWay_17, e_M_findWay_18, e_M_findWay_19, e_M_findWay_20, e_M_findWay_21, e_M_findWay_22, e_M_findWay_23, e_M_findWay_24, e_M_findWay_25, e_M_findWay_26, e_M_findWay_27, e_M_findWay_9 (x5 := nI i), hK0, ho, o0, o1, r1, o2, o3, r2, lit, nad, nml, bd_s, ct_s, ct_n, a11, a01, aB2, bitA, nlt, nle, neq, dlT, dlF, deT, deF, dqT, dqF, nN, inb, nsb, ndv, nrm, if_true, if_false, ite_true, ite_false, true_and, and_true, and_self, and_false, false_and, or_true, true_or, or_false, false_or, or_self, reduceIte, eq_self, Nat.reduceAdd, Nat.reduceMul, Nat.reduceSub, Nat.reduceDiv, Nat.reduceMod, not_true_eq_false, not_false_eq_true, up_T, up_F, wr_T, wr_F, ngE, ngE', ngL, ngL', ngQ, ngQ', show b2 false = 0 from rfl, show b2 true = 1 from rfl, Bool.or_true, Bool.or_false]
      · rintro ⟨K, b⟩ ⟨hK, z, l, f, hL, hV⟩
        dsimp only at hK hL hV ⊢
        have hK0 : K 47 0 0 = nI (A 0 0 0) := by rw [hK 47 (by decide)]; exact hR0
        refine ⟨(K, b, some (.inl (nI (A 0 0 0)))), ⟨hK, fun h9 => hV.2.2.2.2.2 (by omega), z, l, f, hL, ?_⟩, ?_⟩
        · cases b with
          | true => exact Or.inl ⟨rfl, rV_next gE hV⟩
          | false => exact Or.inr ⟨rfl, rV_fix gE hV⟩
        · dsimp only
          simp (disch := omega) only [e_M_findWay_9, e_M_findWay_28, hK0, lit, nad, nml, bd_s, ct_s, ct_n, a11, a01, aB2, bitA, nlt, nle, neq, dlT, dlF, deT, deF, dqT, dqF, nN, inb, nsb, ndv, nrm, if_true, if_false, ite_true, ite_false, true_and, and_true, and_self, and_false, false_and, or_true, true_or, or_false, false_or, or_self, reduceIte, eq_self, Nat.reduceAdd, Nat.reduceMul, Nat.reduceSub, Nat.reduceDiv, Nat.reduceMod, not_true_eq_false, not_false_eq_true, up_T, up_F, wr_T, wr_F, ngE, ngE', ngL, ngL', ngQ, ngQ']
    · left
      subst hb
      refine ⟨J, v, z, l, f, hJ, hL, hV, ?_⟩
      simp (disch := omega) only [e_M_findWay_7, b2, lit, nad, nml, bd_s, ct_s, ct_n, a11, a01, aB2, bitA, nlt, nle, neq, dlT, dlF, deT, deF, dqT, dqF, nN, inb, nsb, ndv, nrm, if_true, if_false, ite_true, ite_false, true_and, and_true, and_self, and_false, false_and, or_true, true_or, or_false, false_or, or_self, reduceIte, eq_self, Nat.reduceAdd, Nat.reduceMul, Nat.reduceSub, Nat.reduceDiv, Nat.reduceMod, not_true_eq_false, not_false_eq_true, up_T, up_F, wr_T, wr_F, ngE, ngE', ngL, ngL', ngQ, ngQ', Bool.false_eq_true]) (by
    rintro ⟨J, b, v⟩ ⟨hJ, h10, z, l, f, hL, hV⟩
    dsimp only at hJ hL hV h10 ⊢
    have hb := h10 rfl
    subst hb
    rcases hV with ⟨hb, hV⟩ | ⟨hb, hV⟩
    · cases hb
    · refine ⟨J, v, z, l, f, hJ, hL, hV, ?_⟩
      simp (disch := omega) only [e_M_findWay_7, b2, lit, nad, nml, bd_s, ct_s, ct_n, a11, a01, aB2, bitA, nlt, nle, neq, dlT, dlF, deT, deF, dqT, dqF, nN, inb, nsb, ndv, nrm, if_true, if_false, ite_true, ite_false, true_and, and_true, and_self, and_false, false_and, or_true, true_or, or_false, false_or, or_self, reduceIte, eq_self, Nat.reduceAdd, Nat.reduceMul, Nat.reduceSub, Nat.reduceDiv, Nat.reduceMod, not_true_eq_false, not_false_eq_true, up_T, up_F, wr_T, wr_F, ngE, ngE', ngL, ngL', ngQ, ngQ', Bool.false_eq_true]) 0 (J0, true, none) (Nat.zero_le _) ⟨j1, fun h => by omega, _, _, _, j2, Or.inl ⟨rfl, rV_0 gE htt⟩⟩
  obtain ⟨J, v, z, l, f, hJ, hL, hV, k2⟩ := l2
  have k2' : Rn (d + 3) q_M_findWay 7 [some (.inr (12, 0)), some (.inl (nI t)), some (.inl (nI fr)), some (.inl (nI to)), some (.inl (nI 1)), none, none] [] J0 = Rn (d + 3) q_M_findWay 29 [some (.inr (12, 0)), some (.inl (nI t)), some (.inl (nI fr)), some (.inl (nI to)), some (.inl (nI 0)), v, none] [] J := k2
  rw [k2']
  have eJ : eqo [12, 48, 49, 50] I J := eqo_mono hJ (by decide)
  obtain ⟨x1, x2⟩ := hV fr hf
  obtain ⟨y1, y2⟩ := hL fr hf
  by_cases hr : ds A x to fr < 536870912
  · have hrc := (ds_F (x := x) (to := to) gE hf).2.mp hr
    obtain ⟨w1, w2, w3⟩ := x2 hrc
    have bb := ds_b gE hf hrc
    have hE : dE A x to fr ≤ 30000 := by unfold dE; omega
    have h9 := dM_9 gE hf hrc
    rw [w1, w2] at y1
    simp only [if_true] at y1
    rw [if_pos hr]
    have k3 : Rn (d + 3) q_M_findWay 29 [some (.inr (12, 0)), some (.inl (nI t)), some (.inl (nI fr)), some (.inl (nI to)), some (.inl (nI 0)), v, none] [] J = Rn (d + 3) q_M_findWay 32 [some (.inr (12, 0)), some (.inl (nI t)), some (.inl (nI fr)), some (.inl (nI to)), some (.inl (nI 0)), some (.inl (nI fr)), none] [] (mm_up J 12 0 7 (nI 0)) := by
      simp (disch := omega) only [e_M_findWay_29, e_M_findWay_31, lit, nad, nml, bd_s, ct_s, ct_n, a11, a01, aB2, bitA, nlt, nle, neq, dlT, dlF, deT, deF, dqT, dqF, nN, inb, nsb, ndv, nrm, if_true, if_false, ite_true, ite_false, true_and, and_true, and_self, and_false, false_and, or_true, true_or, or_false, false_or, or_self, reduceIte, eq_self, Nat.reduceAdd, Nat.reduceMul, Nat.reduceSub, Nat.reduceDiv, Nat.reduceMod, not_true_eq_false, not_false_eq_true, up_T, up_F, wr_T, wr_F, ngE, ngE', ngL, ngL', ngQ, ngQ', y1]
    rw [k3]
    have hRJ : RepR 0 A J := RepR_o hR (by rw [hJ 47 (by decide)])
    refine lpX (n := dM A x to fr) (σ := mm_I × Option mm_V) (fun k s => Rn (d + 3) q_M_findWay 32 [some (.inr (12, 0)), some (.inl (nI t)), some (.inl (nI fr)), some (.inl (nI to)), some (.inl (nI 0)), some (.inl (nI (wa A x to fr k))), s.2] [] s.1) (fun k s => eqo [12, 50] J s.1 ∧ ex12 7 J s.1 ∧ s.1 12 0 7 = nI k ∧ ∀ j, j < k → s.1 50 0 j = nI (wp A x to fr j)) (fun q => ∃ I', q = some (some (.inl (nI 1)), (sh0, I')) ∧ eqo [12, 48, 49, 50] I I' ∧ ex12 7 I I' ∧ (ds A x to fr < 536870912 → I' 12 0 7 = nI (dM A x to fr) ∧ I' 48 0 fr = nI (dE A x to fr) ∧ ∀ k, k < dM A x to fr → I' 50 0 k = nI (wp A x to fr k))) ?_ ?_ 0 (mm_up J 12 0 7 (nI 0), none) (Nat.zero_le _) ?_
    · rintro k ⟨K, v⟩ hk ⟨q1, q2, q3, q4⟩
      dsimp only at q1 q2 q3 q4 ⊢
      obtain ⟨w1, w2, w3, w4⟩ := wa_of gE hf hrc k (by omega)
      have w5 := w4 hk
      obtain ⟨n1, n2, n3, n4, -⟩ := nx_of gE w1 w2 w5
      obtain ⟨-, -, -, n5⟩ := fs_some n1
      have hRK : RepR 0 A K := RepR_o hRJ (by rw [q1 47 (by decide)])
      have hLK : LF K z l f := fun c hc => by rw [q1 48 (by decide), q1 49 (by decide)]; exact hL c hc
      have hzK : ∀ p, p < 16 → (nI p = K 12 0 8 ↔ p = x) := fun p hp => by rw [q2 8 (by decide), hJ 12 (by decide)]; exact hz p hp
      have in1 := lpX (n := nx A x to (wa A x to fr k)) (σ := Unit) (fun i _ => Rn (d + 3) q_M_findWay 34 [some (.inr (12, 0)), some (.inl (nI t)), some (.inl (nI fr)), some (.inl (nI to)), some (.inl (nI 0)), some (.inl (nI (wa A x to fr k))), some (.inl (nI i))] [] K) (fun _ _ => True) (fun q => q = Rn (d + 3) q_M_findWay 37 [some (.inr (12, 0)), some (.inl (nI t)), some (.inl (nI fr)), some (.inl (nI to)), some (.inl (nI 0)), some (.inl (nI (wa A x to fr k))), some (.inl (nI (nx A x to (wa A x to fr k))))] [] K) (by
        intro i _ hi _
        have nn := s_M_isNext d i x to (wa A x to fr k) A K z l f hRK g (by omega) w1 w2 hzK hLK hV
        rw [n5 i (Nat.zero_le _) hi] at nn
        refine Or.inr ⟨(), trivial, ?_⟩
        simp (disch := omega) only [e_M_findWay_34 (x6 := nI i), e_M_findWay_35, e_M_findWay_36, nn, lit, nad, nml, bd_s, ct_s, ct_n, a11, a01, aB2, bitA, nlt, nle, neq, dlT, dlF, deT, deF, dqT, dqF, nN, inb, nsb, ndv, nrm, if_true, if_false, ite_true, ite_false, true_and, and_true, and_self, and_false, false_and, or_true, true_or, or_false, false_or, or_self, reduceIte, eq_self, Nat.reduceAdd, Nat.reduceMul, Nat.reduceSub, Nat.reduceDiv, Nat.reduceMod, not_true_eq_false, not_false_eq_true, up_T, up_F, wr_T, wr_F, ngE, ngE', ngL, ngL', ngQ, ngQ', show b2 false = 0 from rfl]) (by
        intro _ _
        have nn := s_M_isNext d (nx A x to (wa A x to fr k)) x to (wa A x to fr k) A K z l f hRK g n2 w1 w2 hzK hLK hV
        rw [n3] at nn
        simp (disch := omega) only [e_M_findWay_34, e_M_findWay_35, nn, lit, nad, nml, bd_s, ct_s, ct_n, a11, a01, aB2, bitA, nlt, nle, neq, dlT, dlF, deT, deF, dqT, dqF, nN, inb, nsb, ndv, nrm, if_true, if_false, ite_true, ite_false, true_and, and_true, and_self, and_false, false_and, or_true, true_or, or_false, false_or, or_self, reduceIte, eq_self, Nat.reduceAdd, Nat.reduceMul, Nat.reduceSub, Nat.reduceDiv, Nat.reduceMod, not_true_eq_false, not_false_eq_true, up_T, up_F, wr_T, wr_F, ngE, ngE', ngL, ngL', ngQ, ngQ', show b2 true = 1 from rfl]) 0 () (Nat.zero_le _) trivial
      have e2 : eqo [12, 50] K (mm_up (mm_up K 50 0 k (nI (wp A x to fr k))) 12 0 7 (nI (k + 1))) := eqo_up (eqo_up (eqo_rf _ _) (by decide)) (by decide)
      have hRK2 : RepR 0 A (mm_up (mm_up K 50 0 k (nI (wp A x to fr k))) 12 0 7 (nI (k + 1))) := RepR_o hRK (by rw [e2 47 (by decide)])
      have n2' : wp A x to fr k < A 0 0 0 := n2
      have o0 := s_M_of9 (d + 2) (wp A x to fr k) 0 A _ hRK2 g n2' (by decide)
      have o1 := s_M_of9 (d + 2) (wp A x to fr k) 1 A _ hRK2 g n2' (by decide)
      refine Or.inr ⟨(mm_up (mm_up K 50 0 k (nI (wp A x to fr k))) 12 0 7 (nI (k + 1)), some (.inl (nI (wp A x to fr k)))), ⟨eqo_tr q1 e2, fun j hj => ?_, ?_, fun j hj => ?_⟩, ?_⟩
      · dsimp only
        rw [up_F (by omega), up_F (by omega)]
        exact q2 j hj
      · dsimp only
        rw [up_s]
      · dsimp only
        rw [up_F (by omega)]
        rcases Nat.lt_or_ge j k with q | q
        · rw [up_F (by omega)]; exact q4 j q
        · rw [show j = k by omega, up_s]
      · dsimp only
        have hwk : wa A x to fr (k + 1) = (if A 1 (wp A x to fr k) 0 = wa A x to fr k then A 1 (wp A x to fr k) 1 else A 1 (wp A x to fr k) 0) := rfl
        rw [hwk]
        have st : Rn (d + 3) q_M_findWay 32 [some (.inr (12, 0)), some (.inl (nI t)), some (.inl (nI fr)), some (.inl (nI to)), some (.inl (nI 0)), some (.inl (nI (wa A x to fr k))), v] [] K = Rn (d + 3) q_M_findWay 37 [some (.inr (12, 0)), some (.inl (nI t)), some (.inl (nI fr)), some (.inl (nI to)), some (.inl (nI 0)), some (.inl (nI (wa A x to fr k))), some (.inl (nI (wp A x to fr k)))] [] K := by
          refine Eq.trans ?_ in1
          simp (disch := omega) only [e_M_findWay_32, e_M_findWay_33, lit, nad, nml, bd_s, ct_s, ct_n, a11, a01, aB2, bitA, nlt, nle, neq, dlT, dlF, deT, deF, dqT, dqF, nN, inb, nsb, ndv, nrm, if_true, if_false, ite_true, ite_false, true_and, and_true, and_self, and_false, false_and, or_true, true_or, or_false, false_or, or_self, reduceIte, eq_self, Nat.reduceAdd, Nat.reduceMul, Nat.reduceSub, Nat.reduceDiv, Nat.reduceMod, not_true_eq_false, not_false_eq_true, up_T, up_F, wr_T, wr_F, ngE, ngE', ngL, ngL', ngQ, ngQ']
        rw [st]
        have hG := gE.2 _ n2'
        generalize wp A x to fr k = p at *
        generalize wa A x to fr k = a at *
        by_cases e : A 1 p 0 = a
        · simp (disch := omega) only [e_M_findWay_37, e_M_findWay_38, e_M_findWay_39, e_M_findWay_40, e_M_findWay_42, q3, o0, o1, lit, nad, nml, bd_s, ct_s, ct_n, a11, a01, aB2, bitA, nlt, nle, neq, dlT, dlF, deT, deF, dqT, dqF, nN, inb, nsb, ndv, nrm, if_true, if_false, ite_true, ite_false, true_and, and_true, and_self, and_false, false_and, or_true, true_or, or_false, false_or, or_self, reduceIte, eq_self, Nat.reduceAdd, Nat.reduceMul, Nat.reduceSub, Nat.reduceDiv, Nat.reduceMod, not_true_eq_false, not_false_eq_true, up_T, up_F, wr_T, wr_F, ngE, ngE', ngL, ngL', ngQ, ngQ']
        · simp (disch := omega) only [e_M_findWay_37, e_M_findWay_38, e_M_findWay_41, e_M_findWay_42, q3, o0, o1, lit, nad, nml, bd_s, ct_s, ct_n, a11, a01, aB2, bitA, nlt, nle, neq, dlT, dlF, deT, deF, dqT, dqF, nN, inb, nsb, ndv, nrm, if_true, if_false, ite_true, ite_false, true_and, and_true, and_self, and_false, false_and, or_true, true_or, or_false, false_or, or_self, reduceIte, eq_self, Nat.reduceAdd, Nat.reduceMul, Nat.reduceSub, Nat.reduceDiv, Nat.reduceMod, not_true_eq_false, not_false_eq_true, up_T, up_F, wr_T, wr_F, ngE, ngE', ngL, ngL', ngQ, ngQ']
    · rintro ⟨K, v⟩ ⟨q1, q2, q3, q4⟩
      dsimp only at q1 q2 q3 q4 ⊢
      refine ⟨K, ?_, eqo_tr eJ (eqo_mono q1 (by decide)), fun j hj => by rw [q2 j hj, hJ 12 (by decide)], fun _ => ⟨q3, by rw [q1 48 (by decide)]; exact y1, q4⟩⟩
      rw [wa_end gE hf hrc]
      simp (disch := omega) only [e_M_findWay_32, e_M_findWay_43, lit, nad, nml, bd_s, ct_s, ct_n, a11, a01, aB2, bitA, nlt, nle, neq, dlT, dlF, deT, deF, dqT, dqF, nN, inb, nsb, ndv, nrm, if_true, if_false, ite_true, ite_false, true_and, and_true, and_self, and_false, false_and, or_true, true_or, or_false, false_or, or_self, reduceIte, eq_self, Nat.reduceAdd, Nat.reduceMul, Nat.reduceSub, Nat.reduceDiv, Nat.reduceMod, not_true_eq_false, not_false_eq_true, up_T, up_F, wr_T, wr_F, ngE, ngE', ngL, ngL', ngQ, ngQ']
    · dsimp only
      exact ⟨eqo_up (eqo_rf _ _) (by decide), fun j hj => up_F (by omega), up_s J 12 0 7 _, fun j hj => by omega⟩
  · have hrc : ¬ rch A x to fr := fun q => hr ((ds_F (x := x) (to := to) gE hf).2.mpr q)
    have hzf : z fr = false := by
      cases q : z fr with
      | false => rfl
      | true => exact absurd (x1.mp q) hrc
    rw [hzf] at y1
    simp only [Bool.false_eq_true, if_false] at y1
    refine ⟨mm_up J 12 0 7 (nI 0), ?_, eqo_up eJ (by decide), fun j hj => by rw [up_F (by omega), hJ 12 (by decide)], fun q => absurd q hr⟩
    rw [if_neg hr]
    simp (disch := omega) only [e_M_findWay_29, e_M_findWay_30, lit, nad, nml, bd_s, ct_s, ct_n, a11, a01, aB2, bitA, nlt, nle, neq, dlT, dlF, deT, deF, dqT, dqF, nN, inb, nsb, ndv, nrm, if_true, if_false, ite_true, ite_false, true_and, and_true, and_self, and_false, false_and, or_true, true_or, or_false, false_or, or_self, reduceIte, eq_self, Nat.reduceAdd, Nat.reduceMul, Nat.reduceSub, Nat.reduceDiv, Nat.reduceMod, not_true_eq_false, not_false_eq_true, up_T, up_F, wr_T, wr_F, ngE, ngE', ngL, ngL', ngQ, ngQ', y1]
theorem s_M_findBoots (d x : Nat) (A : mm_A) (I : mm_I) (hR : RepR 0 A I) (g : Good A) (hz : ∀ p, p < 16 → (nI p = I 12 0 8 ↔ p = x)) : ∃ I', Sn (d + 5) q_M_findBoots [.inr (12, 0)] I = some (none, (sh0, I')) ∧ eqo [12, 48, 49, 50, 51] I I' ∧ ex12 7 I I' ∧ ∀ p, p < 16 → I' 51 0 p = nI (bo A x p) := by
  have hN := g.1.1
  have gE := GE_of g
  have hT12 : A 0 0 1 ≤ 12 := g.2.1 0 (by decide)
  have k0 : Sn (d + 5) q_M_findBoots [.inr (12, 0)] I = Rn (d + 4) q_M_findBoots 4 [some (.inr (12, 0)), some (.inl (nI 0)), none, none] [] (wr I 51 0 0 16 (fun _ => nI 0)) := by
    simp only [n_M_findBoots, e_M_findBoots_0]
    refine lpX (n := 16) (σ := mm_I) (fun i s => Rn (d + 4) q_M_findBoots 1 [some (.inr (12, 0)), some (.inl (nI i)), none, none] [] s) (fun i s => s = wr I 51 0 0 i (fun _ => nI 0)) (fun r => r = _) (fun i s hi hV => Or.inr ⟨mm_up s 51 0 i (nI 0), by
      rw [hV]
      have := wr_s I 51 0 0 i (fun _ => nI 0)
      rw [Nat.zero_add] at this
      exact this, by simp (disch := omega) only [e_M_findBoots_2, e_M_findBoots_1 (x1 := nI i), lit, nad, nml, bd_s, ct_s, ct_n, a11, a01, aB2, bitA, nlt, nle, neq, dlT, dlF, deT, deF, dqT, dqF, nN, inb, nsb, ndv, nrm, if_true, if_false, ite_true, ite_false, true_and, and_true, and_self, and_false, false_and, or_true, true_or, or_false, false_or, or_self, reduceIte, eq_self, Nat.reduceAdd, Nat.reduceMul, Nat.reduceSub, Nat.reduceDiv, Nat.reduceMod, not_true_eq_false, not_false_eq_true, up_T, up_F, wr_T, wr_F, ngE, ngE', ngL, ngL', ngQ, ngQ']⟩) (fun s hV => by
        rw [hV]
        simp (disch := omega) only [e_M_findBoots_1, e_M_findBoots_3, lit, nad, nml, bd_s, ct_s, ct_n, a11, a01, aB2, bitA, nlt, nle, neq, dlT, dlF, deT, deF, dqT, dqF, nN, inb, nsb, ndv, nrm, if_true, if_false, ite_true, ite_false, true_and, and_true, and_self, and_false, false_and, or_true, true_or, or_false, false_or, or_self, reduceIte, eq_self, Nat.reduceAdd, Nat.reduceMul, Nat.reduceSub, Nat.reduceDiv, Nat.reduceMod, not_true_eq_false, not_false_eq_true, up_T, up_F, wr_T, wr_F, ngE, ngE', ngL, ngL', ngQ, ngQ']) 0 _ (Nat.zero_le _) (wr_0 _ _ _ _ _).symm
  rw [k0]
  refine lpX (n := A 0 0 1) (σ := mm_I × Option mm_V × Option mm_V) (fun t s => Rn (d + 4) q_M_findBoots 4 [some (.inr (12, 0)), some (.inl (nI t)), s.2.1, s.2.2] [] s.1) (fun t s => eqo [12, 48, 49, 50, 51] I s.1 ∧ ex12 7 I s.1 ∧ ∀ p, p < 16 → s.1 51 0 p = nI (bt A x t p)) (fun q => ∃ I', q = some (none, (sh0, I')) ∧ eqo [12, 48, 49, 50, 51] I I' ∧ ex12 7 I I' ∧ ∀ p, p < 16 → I' 51 0 p = nI (bo A x p)) ?_ ?_ 0 (wr I 51 0 0 16 (fun _ => nI 0), none, none) (Nat.zero_le _) ?_
  · rintro t ⟨J, v, w⟩ ht ⟨j1, j2, j3⟩
    dsimp only at j1 j2 j3 ⊢
    have hRJ : RepR 0 A J := RepR_o hR (by rw [j1 47 (by decide)])
    have hm : J 47 0 1 = nI (A 0 0 1) := hRJ.1 1 (by decide)
    obtain ⟨g0, g1, g2, g3⟩ := trG g ht
    obtain ⟨J1, f1, f2, f2', f3⟩ := s_M_findWay d t x A J hRJ g ht (fun p hp => by rw [j2 8 (by decide)]; exact hz p hp)
    have e1 : ex12 7 I J1 := fun j hj => by rw [f2' j hj, j2 j hj]
    right
    by_cases hr : ds A x (A 4 t 1) (A 4 t 0) < 536870912
    · rw [if_pos hr] at f1
      obtain ⟨f4, f5, f6⟩ := f3 hr
      have hrc := (ds_F (x := x) (to := A 4 t 1) gE (by omega)).2.mp hr
      have h9 := dM_9 gE (by omega) hrc
      have k1 : Rn (d + 4) q_M_findBoots 4 [some (.inr (12, 0)), some (.inl (nI t)), v, w] [] J = Rn (d + 4) q_M_findBoots 7 [some (.inr (12, 0)), some (.inl (nI t)), some (.inl (nI 1)), some (.inl (nI 0))] [] J1 := by
        simp (disch := omega) only [e_M_findBoots_5, e_M_findBoots_6, e_M_findBoots_4 (x1 := nI t), hm, f1, lit, nad, nml, bd_s, ct_s, ct_n, a11, a01, aB2, bitA, nlt, nle, neq, dlT, dlF, deT, deF, dqT, dqF, nN, inb, nsb, ndv, nrm, if_true, if_false, ite_true, ite_false, true_and, and_true, and_self, and_false, false_and, or_true, true_or, or_false, false_or, or_self, reduceIte, eq_self, Nat.reduceAdd, Nat.reduceMul, Nat.reduceSub, Nat.reduceDiv, Nat.reduceMod, not_true_eq_false, not_false_eq_true, up_T, up_F, wr_T, wr_F, ngE, ngE', ngL, ngL', ngQ, ngQ']
      rw [k1]
      have hbt : bt A x (t + 1) = pb A x (A 4 t 1) (A 4 t 0) (A 4 t 2) (bt A x t) (dM A x (A 4 t 1) (A 4 t 0)) := by rw [bt, if_pos hr]
      have hw : J1 47 0 (156 + 3 * t + 2) = nI (A 4 t 2) := by rw [f2 47 (by decide)]; exact hRJ.2.2.2.2 0 t 2 (by decide) ht (by decide)
      refine lpX (n := dM A x (A 4 t 1) (A 4 t 0)) (σ := mm_I) (fun k s => Rn (d + 4) q_M_findBoots 7 [some (.inr (12, 0)), some (.inl (nI t)), some (.inl (nI 1)), some (.inl (nI k))] [] s) (fun k s => eqo [51] J1 s ∧ ∀ p, p < 16 → s 51 0 p = nI (pb A x (A 4 t 1) (A 4 t 0) (A 4 t 2) (bt A x t) k p)) (fun q => ∃ s' : mm_I × Option mm_V × Option mm_V, (eqo [12, 48, 49, 50, 51] I s'.1 ∧ ex12 7 I s'.1 ∧ ∀ p, p < 16 → s'.1 51 0 p = nI (bt A x (t + 1) p)) ∧ q = Rn (d + 4) q_M_findBoots 4 [some (.inr (12, 0)), some (.inl (nI (t + 1))), s'.2.1, s'.2.2] [] s'.1) ?_ ?_ 0 J1 (Nat.zero_le _) ⟨eqo_rf _ _, fun p hp => by rw [f2 51 (by decide)]; exact j3 p hp⟩
      · rintro k K hk ⟨k2, k3⟩
        have hp := wp_lt gE (by omega) hrc hk
        have k4 : K 50 0 k = nI (wp A x (A 4 t 1) (A 4 t 0) k) := by rw [k2 50 (by decide)]; exact f6 k hk
        have k5 : K 12 0 7 = nI (dM A x (A 4 t 1) (A 4 t 0)) := by rw [k2 12 (by decide)]; exact f4
        have k6 := k3 _ (show wp A x (A 4 t 1) (A 4 t 0) k < 16 by omega)
        have k7 : K 47 0 (156 + 3 * t + 2) = nI (A 4 t 2) := by rw [k2 47 (by decide)]; exact hw
        refine Or.inr ⟨mm_up K 51 0 (wp A x (A 4 t 1) (A 4 t 0) k) (nI (pb A x (A 4 t 1) (A 4 t 0) (A 4 t 2) (bt A x t) k (wp A x (A 4 t 1) (A 4 t 0) k) + A 4 t 2)), ⟨eqo_up k2 (by decide), fun p hp2 => ?_⟩, ?_⟩
        · rw [pb]
          by_cases q : p = wp A x (A 4 t 1) (A 4 t 0) k
          · rw [q, up_s, uN_s]
          · rw [up_F (by omega), uN_n q]; exact k3 p hp2
        · simp (disch := omega) only [e_M_findBoots_8, e_M_findBoots_9, e_M_findBoots_7 (x3 := nI k), k4, k5, k6, k7, lit, nad, nml, bd_s, ct_s, ct_n, a11, a01, aB2, bitA, nlt, nle, neq, dlT, dlF, deT, deF, dqT, dqF, nN, inb, nsb, ndv, nrm, if_true, if_false, ite_true, ite_false, true_and, and_true, and_self, and_false, false_and, or_true, true_or, or_false, false_or, or_self, reduceIte, eq_self, Nat.reduceAdd, Nat.reduceMul, Nat.reduceSub, Nat.reduceDiv, Nat.reduceMod, not_true_eq_false, not_false_eq_true, up_T, up_F, wr_T, wr_F, ngE, ngE', ngL, ngL', ngQ, ngQ']
      · rintro K ⟨k2, k3⟩
        have k5 : K 12 0 7 = nI (dM A x (A 4 t 1) (A 4 t 0)) := by rw [k2 12 (by decide)]; exact f4
        refine ⟨(K, some (.inl (nI 1)), some (.inl (nI (dM A x (A 4 t 1) (A 4 t 0))))), ⟨eqo_tr (eqo_tr j1 (eqo_mono f2 (by decide))) (eqo_mono k2 (by decide)), fun j hj => by dsimp only; rw [k2 12 (by decide)]; exact e1 j hj, fun p hp => by dsimp only; rw [hbt]; exact k3 p hp⟩, ?_⟩
        dsimp only
        simp (disch := omega) only [e_M_findBoots_7, e_M_findBoots_8, e_M_findBoots_10, k5, lit, nad, nml, bd_s, ct_s, ct_n, a11, a01, aB2, bitA, nlt, nle, neq, dlT, dlF, deT, deF, dqT, dqF, nN, inb, nsb, ndv, nrm, if_true, if_false, ite_true, ite_false, true_and, and_true, and_self, and_false, false_and, or_true, true_or, or_false, false_or, or_self, reduceIte, eq_self, Nat.reduceAdd, Nat.reduceMul, Nat.reduceSub, Nat.reduceDiv, Nat.reduceMod, not_true_eq_false, not_false_eq_true, up_T, up_F, wr_T, wr_F, ngE, ngE', ngL, ngL', ngQ, ngQ']
    · rw [if_neg hr] at f1
      refine ⟨(J1, some (.inl (nI 0)), some (.inl (nI 0))), ⟨eqo_tr j1 (eqo_mono f2 (by decide)), e1, fun p hp => ?_⟩, ?_⟩
      · dsimp only
        rw [bt, if_neg hr, f2 51 (by decide)]
        exact j3 p hp
      · dsimp only
        simp (disch := omega) only [e_M_findBoots_5, e_M_findBoots_6, e_M_findBoots_7, e_M_findBoots_10, e_M_findBoots_4 (x1 := nI t), hm, f1, lit, nad, nml, bd_s, ct_s, ct_n, a11, a01, aB2, bitA, nlt, nle, neq, dlT, dlF, deT, deF, dqT, dqF, nN, inb, nsb, ndv, nrm, if_true, if_false, ite_true, ite_false, true_and, and_true, and_self, and_false, false_and, or_true, true_or, or_false, false_or, or_self, reduceIte, eq_self, Nat.reduceAdd, Nat.reduceMul, Nat.reduceSub, Nat.reduceDiv, Nat.reduceMod, not_true_eq_false, not_false_eq_true, up_T, up_F, wr_T, wr_F, ngE, ngE', ngL, ngL', ngQ, ngQ']
  · rintro ⟨J, v, w⟩ ⟨j1, j2, j3⟩
    dsimp only at j1 j2 j3 ⊢
    have hm : J 47 0 1 = nI (A 0 0 1) := by rw [j1 47 (by decide)]; exact hR.1 1 (by decide)
    refine ⟨J, ?_, j1, j2, j3⟩
    simp (disch := omega) only [e_M_findBoots_4, e_M_findBoots_11, hm, lit, nad, nml, bd_s, ct_s, ct_n, a11, a01, aB2, bitA, nlt, nle, neq, dlT, dlF, deT, deF, dqT, dqF, nN, inb, nsb, ndv, nrm, if_true, if_false, ite_true, ite_false, true_and, and_true, and_self, and_false, false_and, or_true, true_or, or_false, false_or, or_self, reduceIte, eq_self, Nat.reduceAdd, Nat.reduceMul, Nat.reduceSub, Nat.reduceDiv, Nat.reduceMod, not_true_eq_false, not_false_eq_true, up_T, up_F, wr_T, wr_F, ngE, ngE', ngL, ngL', ngQ, ngQ']
  · dsimp only
    refine ⟨eqo_wr (eqo_rf _ _) (by decide), fun j hj => by rw [wr_F (by omega)], fun p hp => ?_⟩
    rw [wr_T (by omega)]
    rfl
