/-! The reference takes an E. -/
def TTo (o : Nat) (t : Nat → Bool) (I : mm_I) : Prop := ∀ j, j ≤ o → I 201 0 j = nI (b2 (t j))
theorem TTo_e {o : Nat} {t : Nat → Bool} {I I' : mm_I} (h : TTo o t I) (e : I' 201 = I 201) : TTo o t I' := by unfold TTo; rw [e]; exact h
theorem tk3 {x : LX} (h : x.1 < 256) : tkN x = 3 := by
  unfold tkN
  rw [if_neg (by omega), if_neg (by omega), if_neg (by omega), if_neg (by omega)]
theorem tkn3 {x : LX} (h : 256 ≤ x.1) (h2 : x.1 ≤ 259) : tkN x ≠ 3 ∧ tkN x ≤ 4 ∧ (tkN x = 0 ↔ x.1 = 256) := by
  unfold tkN
  rcases (show x.1 = 256 ∨ x.1 = 257 ∨ x.1 = 258 ∨ x.1 = 259 by omega) with q | q | q | q
  · rw [if_pos q]; omega
  · rw [if_neg (by omega), if_pos q]; omega
  · rw [if_neg (by omega), if_neg (by omega), if_pos q]; split <;> omega
  · rw [if_neg (by omega), if_neg (by omega), if_neg (by omega), if_pos q]; omega
/-- a sign that may stand here, up to the settle -/
theorem s_sgn (d n o k : Nat) (T : Nat → Nat) (x : LX) (t : Nat → Bool) (v : Option mm_V) (I : mm_I) (hL : LR T x I) (hx : x.1 ≤ 259) (ho : o ≤ 8) (hT : I 201 0 o = nI (b2 (t o))) (hr : rkS x.1 ≠ 0) (h3 : ¬ (rkS x.1 = 3 ∧ t o = true)) : Rn (d + 3) q_M_takesE 28 [some (.inr (12, 0)), some (.inl (nI o)), some (.inl (nI k)), some (.inl (nI 0)), v] [] I = Rn (d + 3) q_M_takesE 42 [some (.inr (12, 0)), some (.inl (nI o)), some (.inl (nI k)), some (.inl (nI 0)), some (.inl (dcR (20000 + x.1)))] [.inl (nI (rkS x.1)), .inr (12, 0)] (mm_up I 201 0 o (nI (b2 (decide (rkS x.1 = 3) || (decide (3 < rkS x.1) && t o))))) := by
  have sh := s_signHere (d + 2) T x I hL hx
  rw [if_neg hr] at sh
  have w1 := okW_s hr
  have hb := rkS_b x.1
  have wc : wcR (20000 + x.1) = dcR (20000 + x.1) := if_neg (by have := rkS_0 hr; omega)
  have rk : ∀ J, Sn (d + 3) q_M_rank [.inl (dcR (20000 + x.1))] J = some (some (.inl (nI (rkS x.1))), (sh0, J)) := fun J => by
    have := s_rank (d + 2) (20000 + x.1) J w1 (by have := rkS_0 hr; omega)
    rw [wc, rkC_s hr] at this
    exact this
  have d0 := dc_0 hr
  by_cases c3 : rkS x.1 = 3
  · have tf : t o = false := by
      cases q : t o with
      | false => rfl
      | true => exact absurd ⟨c3, q⟩ h3
    rw [tf] at hT ⊢
    rw [c3] at rk ⊢
    simp (disch := omega) only [e_M_takesE_28, e_M_takesE_29, e_M_takesE_30, e_M_takesE_31, e_M_takesE_32, e_M_takesE_34, e_M_takesE_35, e_M_takesE_39, e_M_takesE_41, lit, nad, nml, bd_s, ct_s, ct_n, a11, a01, aB2, bitA, nlt, nle, neq, dlT, dlF, deT, deF, dqT, dqF, nN, inb, nsb, ndv, nrm, if_true, if_false, ite_true, ite_false, true_and, and_true, and_self, and_false, false_and, or_true, true_or, or_false, false_or, or_self, ↓reduceIte, eq_self, Nat.reduceAdd, Nat.reduceMul, Nat.reduceSub, Nat.reduceDiv, Nat.reduceMod, Nat.zero_add, Nat.mul_zero, not_true_eq_false, not_false_eq_true, up_T, up_F, wr_T, wr_F, ngE, ngE', ngL, ngL', ngQ, ngQ', sh, d0, rk, hT, b2F, b2T, decide_true, Bool.true_or]
  · rw [decide_eq_false c3, Bool.false_or]
    by_cases c4 : 3 < rkS x.1
    · rw [decide_eq_true c4, Bool.true_and]
      cases q : t o with
      | false =>
        rw [q] at hT
        simp (disch := omega) only [e_M_takesE_28, e_M_takesE_29, e_M_takesE_30, e_M_takesE_31, e_M_takesE_34, e_M_takesE_35, e_M_takesE_36, e_M_takesE_37, e_M_takesE_38, e_M_takesE_40, e_M_takesE_41, lit, nad, nml, bd_s, ct_s, ct_n, a11, a01, aB2, bitA, nlt, nle, neq, dlT, dlF, deT, deF, dqT, dqF, nN, inb, nsb, ndv, nrm, if_true, if_false, ite_true, ite_false, true_and, and_true, and_self, and_false, false_and, or_true, true_or, or_false, false_or, or_self, ↓reduceIte, eq_self, Nat.reduceAdd, Nat.reduceMul, Nat.reduceSub, Nat.reduceDiv, Nat.reduceMod, Nat.zero_add, Nat.mul_zero, not_true_eq_false, not_false_eq_true, up_T, up_F, wr_T, wr_F, ngE, ngE', ngL, ngL', ngQ, ngQ', sh, d0, rk, hT, b2F, b2T]
      | true =>
        rw [q] at hT
        simp (disch := omega) only [e_M_takesE_28, e_M_takesE_29, e_M_takesE_30, e_M_takesE_31, e_M_takesE_34, e_M_takesE_35, e_M_takesE_36, e_M_takesE_37, e_M_takesE_38, e_M_takesE_39, e_M_takesE_41, lit, nad, nml, bd_s, ct_s, ct_n, a11, a01, aB2, bitA, nlt, nle, neq, dlT, dlF, deT, deF, dqT, dqF, nN, inb, nsb, ndv, nrm, if_true, if_false, ite_true, ite_false, true_and, and_true, and_self, and_false, false_and, or_true, true_or, or_false, false_or, or_self, ↓reduceIte, eq_self, Nat.reduceAdd, Nat.reduceMul, Nat.reduceSub, Nat.reduceDiv, Nat.reduceMod, Nat.zero_add, Nat.mul_zero, not_true_eq_false, not_false_eq_true, up_T, up_F, wr_T, wr_F, ngE, ngE', ngL, ngL', ngQ, ngQ', sh, d0, rk, hT, b2F, b2T]
    · rw [decide_eq_false c4, Bool.false_and]
      simp (disch := omega) only [e_M_takesE_28, e_M_takesE_29, e_M_takesE_30, e_M_takesE_31, e_M_takesE_34, e_M_takesE_35, e_M_takesE_36, e_M_takesE_37, e_M_takesE_40, e_M_takesE_41, lit, nad, nml, bd_s, ct_s, ct_n, a11, a01, aB2, bitA, nlt, nle, neq, dlT, dlF, deT, deF, dqT, dqF, nN, inb, nsb, ndv, nrm, if_true, if_false, ite_true, ite_false, true_and, and_true, and_self, and_false, false_and, or_true, true_or, or_false, false_or, or_self, ↓reduceIte, eq_self, Nat.reduceAdd, Nat.reduceMul, Nat.reduceSub, Nat.reduceDiv, Nat.reduceMod, Nat.zero_add, Nat.mul_zero, not_true_eq_false, not_false_eq_true, up_T, up_F, wr_T, wr_F, ngE, ngE', ngL, ngL', ngQ, ngQ', sh, d0, rk, hT, b2F, b2T]
theorem s_sgnN (d n o k : Nat) (T : Nat → Nat) (x : LX) (t : Nat → Bool) (v : Option mm_V) (I : mm_I) (hL : LR T x I) (hx : x.1 ≤ 259) (ho : o ≤ 8) (hT : I 201 0 o = nI (b2 (t o))) (h3 : rkS x.1 = 0 ∨ (rkS x.1 = 3 ∧ t o = true)) : Rn (d + 3) q_M_takesE 28 [some (.inr (12, 0)), some (.inl (nI o)), some (.inl (nI k)), some (.inl (nI 0)), v] [] I = some (some (.inl (nI 0)), (sh0, I)) := by
  have sh := s_signHere (d + 2) T x I hL hx
  by_cases hr : rkS x.1 = 0
  · rw [if_pos hr] at sh
    simp (disch := omega) only [e_M_takesE_28, e_M_takesE_29, e_M_takesE_33, lit, nad, nml, bd_s, ct_s, ct_n, a11, a01, aB2, bitA, nlt, nle, neq, dlT, dlF, deT, deF, dqT, dqF, nN, inb, nsb, ndv, nrm, if_true, if_false, ite_true, ite_false, true_and, and_true, and_self, and_false, false_and, or_true, true_or, or_false, false_or, or_self, ↓reduceIte, eq_self, Nat.reduceAdd, Nat.reduceMul, Nat.reduceSub, Nat.reduceDiv, Nat.reduceMod, Nat.zero_add, Nat.mul_zero, not_true_eq_false, not_false_eq_true, up_T, up_F, wr_T, wr_F, ngE, ngE', ngL, ngL', ngQ, ngQ', sh]
  · rw [if_neg hr] at sh
    obtain ⟨c3, q⟩ : rkS x.1 = 3 ∧ t o = true := by
      rcases h3 with z | z
      · exact absurd z hr
      · exact z
    have wc : wcR (20000 + x.1) = dcR (20000 + x.1) := if_neg (by have := rkS_0 hr; omega)
    have rk : ∀ J, Sn (d + 3) q_M_rank [.inl (dcR (20000 + x.1))] J = some (some (.inl (nI (rkS x.1))), (sh0, J)) := fun J => by
      have := s_rank (d + 2) (20000 + x.1) J (okW_s hr) (by have := rkS_0 hr; omega)
      rw [wc, rkC_s hr] at this
      exact this
    have d0 := dc_0 hr
    rw [q] at hT
    rw [c3] at rk
    simp (disch := omega) only [e_M_takesE_28, e_M_takesE_29, e_M_takesE_30, e_M_takesE_31, e_M_takesE_32, e_M_takesE_33, lit, nad, nml, bd_s, ct_s, ct_n, a11, a01, aB2, bitA, nlt, nle, neq, dlT, dlF, deT, deF, dqT, dqF, nN, inb, nsb, ndv, nrm, if_true, if_false, ite_true, ite_false, true_and, and_true, and_self, and_false, false_and, or_true, true_or, or_false, false_or, or_self, ↓reduceIte, eq_self, Nat.reduceAdd, Nat.reduceMul, Nat.reduceSub, Nat.reduceDiv, Nat.reduceMod, Nat.zero_add, Nat.mul_zero, not_true_eq_false, not_false_eq_true, up_T, up_F, wr_T, wr_F, ngE, ngE', ngL, ngL', ngQ, ngQ', sh, d0, rk, hT, b2T]
def EP (I : mm_I) (r : RT) (q : Option mm_R) : Prop := ∃ I', q = some (some (.inl (nI (b2 r.1))), (sh0, I')) ∧ pF I I' ∧ (r.1 = false → I' 12 0 13 = nI r.2.1) ∧ (r.1 = true → I' 12 0 21 = nI r.2.2.1.length ∧ I' 12 0 22 = nI r.2.2.2 ∧ ∀ p, p < r.2.2.1.length → I' 54 0 p = dcR (mm_at 0 r.2.2.1 p))
theorem EP_tr {I J : mm_I} {r : RT} {q : Option mm_R} (h : pF I J) (e : EP J r q) : EP I r q := by
  obtain ⟨I', e1, e2, e3, e4⟩ := e
  exact ⟨I', e1, pF_tr h e2, e3, e4⟩
theorem s_tE (d n key : Nat) (T : Nat → Nat) (hk : key < 4) : ∀ f x w W C a o k t r (I : mm_I) (v : Option mm_V), rn T n key f x w W C a o k t = some r → RS T n key x W C a I → TTo o t I → WX T n x → okW W → C.length + W.length ≤ x.2.1 → a ≤ C.length → k ≤ 96 → o ≤ 8 → cnO W = o → EP I r (Rn (d + 3) q_M_takesE 1 [some (.inr (12, 0)), some (.inl (nI o)), some (.inl (nI k)), some (.inl (nI (b2 w))), v] [] I) := by
  intro f
  induction f with
  | zero => intro x w W C a o k t r I v h; cases w <;> cases h
  | succ f ih =>
    intro x w W C a o k t r I v h hS hT hX hW hc ha hk2 ho hcn
    have hn := hS.1.1
    have hb : ∀ p, p < n → T p ≤ 255 := fun p hp => (hS.1.2.2 p hp).1
    have hx1 := hX.1
    have hx2 := hX.2.1
    have hx3 := hX.2.2
    have hxn := WX_s hX
    have nw := nx_w (x := x) hb hx2
    have l13 := hS.2.1.2.1
    have l14 := hS.2.1.2.2.1
    have h24 : I 12 0 24 = nI W.length := hS.2.2.2.1.1
    cases w with
    | true =>
      rw [rn] at h
      have s14 : Rn (d + 3) q_M_takesE 1 [some (.inr (12, 0)), some (.inl (nI o)), some (.inl (nI k)), some (.inl (nI (b2 true))), v] [] I = Rn (d + 3) q_M_takesE 4 [some (.inr (12, 0)), some (.inl (nI o)), some (.inl (nI k)), some (.inl (nI 1)), v] [] I := by
        simp (disch := omega) only [e_M_takesE_1, e_M_takesE_3, lit, nad, nml, bd_s, ct_s, ct_n, a11, a01, aB2, bitA, nlt, nle, neq, dlT, dlF, deT, deF, dqT, dqF, nN, inb, nsb, ndv, nrm, if_true, if_false, ite_true, ite_false, true_and, and_true, and_self, and_false, false_and, or_true, true_or, or_false, false_or, or_self, ↓reduceIte, eq_self, Nat.reduceAdd, Nat.reduceMul, Nat.reduceSub, Nat.reduceDiv, Nat.reduceMod, Nat.zero_add, Nat.mul_zero, not_true_eq_false, not_false_eq_true, up_T, up_F, wr_T, wr_F, ngE, ngE', ngL, ngL', ngQ, ngQ', b2T]
      rw [s14]
      by_cases c1 : x.1 = 33 ∧ k < 8
      · rw [if_pos c1] at h
        have l14' := l14
        rw [tk3 (by omega)] at l14'
        have l15 := hS.2.1.2.2.2.1 (by omega)
        have c2 := c1.2
        have S1 : RS T n key x (20033 :: W) C a (mm_up (mm_up I 55 0 W.length (-nI 10)) 12 0 24 (nI (W.length + 1))) := by
          obtain ⟨r1, r2, r3, r4, r5⟩ := hS
          exact ⟨TR_e r1 (by rw [up_F (by omega), up_F (by omega)]) (by funext i j; rw [up_F (by omega), up_F (by omega)]), LR_e r2 (fun j h1 h2 => by rw [up_F (by omega), up_F (by omega)]), by rw [up_F (by omega), up_F (by omega)]; exact r3, RW_push r4 (up_s _ _ _ _ _) (by rw [up_F (by omega), up_F (by omega)]) (by funext i j; rw [up_F (by omega), up_F (by omega)]) (by rw [up_F (by omega), up_s]; rfl) (fun p hp => by rw [up_F (by omega), up_F (by omega)]), by rw [up_F (by omega), up_F (by omega)]; exact r5⟩
        obtain ⟨I1, a1, a2, a3⟩ := s_RSgo (d + 1) n key T x (20033 :: W) C a _ S1 hX (by omega) (by omega)
        have okc : okW (20033 :: W) := okW_c (Or.inr (Or.inl rfl)) hW
        have no := s_notsOpen (d + 2) (20033 :: W) C I1 a2.2.2.2.1 okc (by rw [List.length_cons]; omega)
        have cl := cn_le (20033 :: W)
        rw [List.length_cons] at cl
        have res := ih (nxT T n x) true (20033 :: W) C a o _ t r I1 v h a2 (TTo_e hT (by rw [a3.1 201 (by decide)]; funext i j; rw [up_F (by omega), up_F (by omega)])) nw.1 okc (by rw [List.length_cons]; omega) ha (by omega) ho (by rw [cnO, if_neg (by decide)]; exact hcn)
        have e1 : Rn (d + 3) q_M_takesE 4 [some (.inr (12, 0)), some (.inl (nI o)), some (.inl (nI k)), some (.inl (nI 1)), v] [] I = Rn (d + 3) q_M_takesE 1 [some (.inr (12, 0)), some (.inl (nI o)), some (.inl (nI (cnN (20033 :: W)))), some (.inl (nI (b2 true))), v] [] I1 := by
          simp (disch := omega) only [e_M_takesE_4, e_M_takesE_5, e_M_takesE_6, e_M_takesE_7, e_M_takesE_8, e_M_takesE_18, e_M_takesE_19, lit, nad, nml, bd_s, ct_s, ct_n, a11, a01, aB2, bitA, nlt, nle, neq, dlT, dlF, deT, deF, dqT, dqF, nN, inb, nsb, ndv, nrm, if_true, if_false, ite_true, ite_false, true_and, and_true, and_self, and_false, false_and, or_true, true_or, or_false, false_or, or_self, ↓reduceIte, eq_self, Nat.reduceAdd, Nat.reduceMul, Nat.reduceSub, Nat.reduceDiv, Nat.reduceMod, Nat.zero_add, Nat.mul_zero, not_true_eq_false, not_false_eq_true, up_T, up_F, wr_T, wr_F, ngE, ngE', ngL, ngL', ngQ, ngQ', l14', l15, c1, h24, a1, no, b2T]
        rw [e1]
        exact EP_tr (pF_tr (pF_j (pF_k (pF_rf I) (by omega)) (by omega)) (pF_g a3)) res
      · rw [if_neg c1] at h
        have s49 : Rn (d + 3) q_M_takesE 4 [some (.inr (12, 0)), some (.inl (nI o)), some (.inl (nI k)), some (.inl (nI 1)), v] [] I = Rn (d + 3) q_M_takesE 9 [some (.inr (12, 0)), some (.inl (nI o)), some (.inl (nI k)), some (.inl (nI 1)), v] [] I := by
          by_cases z : x.1 < 256
          · have l14' := l14
            rw [tk3 z] at l14'
            have l15 := hS.2.1.2.2.2.1 z
            by_cases z2 : x.1 = 33
            · have : 8 ≤ k := by omega
              simp (disch := omega) only [e_M_takesE_4, e_M_takesE_5, e_M_takesE_6, lit, nad, nml, bd_s, ct_s, ct_n, a11, a01, aB2, bitA, nlt, nle, neq, dlT, dlF, deT, deF, dqT, dqF, nN, inb, nsb, ndv, nrm, if_true, if_false, ite_true, ite_false, true_and, and_true, and_self, and_false, false_and, or_true, true_or, or_false, false_or, or_self, ↓reduceIte, eq_self, Nat.reduceAdd, Nat.reduceMul, Nat.reduceSub, Nat.reduceDiv, Nat.reduceMod, Nat.zero_add, Nat.mul_zero, not_true_eq_false, not_false_eq_true, up_T, up_F, wr_T, wr_F, ngE, ngE', ngL, ngL', ngQ, ngQ', l14', l15, z2]
            · simp (disch := omega) only [e_M_takesE_4, e_M_takesE_5, lit, nad, nml, bd_s, ct_s, ct_n, a11, a01, aB2, bitA, nlt, nle, neq, dlT, dlF, deT, deF, dqT, dqF, nN, inb, nsb, ndv, nrm, if_true, if_false, ite_true, ite_false, true_and, and_true, and_self, and_false, false_and, or_true, true_or, or_false, false_or, or_self, ↓reduceIte, eq_self, Nat.reduceAdd, Nat.reduceMul, Nat.reduceSub, Nat.reduceDiv, Nat.reduceMod, Nat.zero_add, Nat.mul_zero, not_true_eq_false, not_false_eq_true, up_T, up_F, wr_T, wr_F, ngE, ngE', ngL, ngL', ngQ, ngQ', l14', l15]
          · obtain ⟨z1, z2, -⟩ := tkn3 (x := x) (by omega) hx1
            simp (disch := omega) only [e_M_takesE_4, lit, nad, nml, bd_s, ct_s, ct_n, a11, a01, aB2, bitA, nlt, nle, neq, dlT, dlF, deT, deF, dqT, dqF, nN, inb, nsb, ndv, nrm, if_true, if_false, ite_true, ite_false, true_and, and_true, and_self, and_false, false_and, or_true, true_or, or_false, false_or, or_self, ↓reduceIte, eq_self, Nat.reduceAdd, Nat.reduceMul, Nat.reduceSub, Nat.reduceDiv, Nat.reduceMod, Nat.zero_add, Nat.mul_zero, not_true_eq_false, not_false_eq_true, up_T, up_F, wr_T, wr_F, ngE, ngE', ngL, ngL', ngQ, ngQ', l14]
        rw [s49]
        by_cases c2 : x.1 = 40 ∧ o < 8
        · rw [if_pos c2] at h
          have l14' := l14
          rw [tk3 (by omega)] at l14'
          have l15 := hS.2.1.2.2.2.1 (by omega)
          have c3 := c2.2
          have S1 : RS T n key x (20040 :: W) C a (mm_up (mm_up (mm_up I 55 0 W.length (-nI 11)) 12 0 24 (nI (W.length + 1))) 201 0 (o + 1) (nI 0)) := by
            obtain ⟨r1, r2, r3, r4, r5⟩ := hS
            exact ⟨TR_e r1 (by rw [up_F (by omega), up_F (by omega), up_F (by omega)]) (by funext i j; rw [up_F (by omega), up_F (by omega), up_F (by omega)]), LR_e r2 (fun j h1 h2 => by rw [up_F (by omega), up_F (by omega), up_F (by omega)]), by rw [up_F (by omega), up_F (by omega), up_F (by omega)]; exact r3, RW_push r4 (by rw [up_F (by omega), up_s]) (by rw [up_F (by omega), up_F (by omega), up_F (by omega)]) (by funext i j; rw [up_F (by omega), up_F (by omega), up_F (by omega)]) (by rw [up_F (by omega), up_F (by omega), up_s]; rfl) (fun p hp => by rw [up_F (by omega), up_F (by omega), up_F (by omega)]), by rw [up_F (by omega), up_F (by omega), up_F (by omega)]; exact r5⟩
          obtain ⟨I1, a1, a2, a3⟩ := s_RSgo (d + 1) n key T x (20040 :: W) C a _ S1 hX (by omega) (by omega)
          have okc : okW (20040 :: W) := okW_c (Or.inl rfl) hW
          have no := s_notsOpen (d + 2) (20040 :: W) C I1 a2.2.2.2.1 okc (by rw [List.length_cons]; omega)
          have cl := cn_le (20040 :: W)
          rw [List.length_cons] at cl
          have res := ih (nxT T n x) true (20040 :: W) C a (o + 1) _ (uB t (o + 1) false) r I1 v h a2 (fun j hj => by
            rw [a3.1 201 (by decide)]
            unfold uB
            by_cases q : j = o + 1
            · rw [q, up_s, if_pos rfl]; rfl
            · rw [up_F (by omega), up_F (by omega), up_F (by omega), if_neg q]; exact hT j (by omega)) nw.1 okc (by rw [List.length_cons]; omega) ha (by omega) (by omega) (by rw [cnO, if_pos rfl, hcn])
          have e1 : Rn (d + 3) q_M_takesE 9 [some (.inr (12, 0)), some (.inl (nI o)), some (.inl (nI k)), some (.inl (nI 1)), v] [] I = Rn (d + 3) q_M_takesE 1 [some (.inr (12, 0)), some (.inl (nI (o + 1))), some (.inl (nI (cnN (20040 :: W)))), some (.inl (nI (b2 true))), v] [] I1 := by
            simp (disch := omega) only [e_M_takesE_9, e_M_takesE_10, e_M_takesE_11, e_M_takesE_12, e_M_takesE_13, e_M_takesE_18, e_M_takesE_19, lit, nad, nml, bd_s, ct_s, ct_n, a11, a01, aB2, bitA, nlt, nle, neq, dlT, dlF, deT, deF, dqT, dqF, nN, inb, nsb, ndv, nrm, if_true, if_false, ite_true, ite_false, true_and, and_true, and_self, and_false, false_and, or_true, true_or, or_false, false_or, or_self, ↓reduceIte, eq_self, Nat.reduceAdd, Nat.reduceMul, Nat.reduceSub, Nat.reduceDiv, Nat.reduceMod, Nat.zero_add, Nat.mul_zero, not_true_eq_false, not_false_eq_true, up_T, up_F, wr_T, wr_F, ngE, ngE', ngL, ngL', ngQ, ngQ', l14', l15, c2, h24, a1, no, b2T]
          rw [e1]
          exact EP_tr (pF_tr (pF_k (pF_j (pF_k (pF_rf I) (by omega)) (by omega)) (by omega)) (pF_g a3)) res
        · rw [if_neg c2] at h
          have s914 : Rn (d + 3) q_M_takesE 9 [some (.inr (12, 0)), some (.inl (nI o)), some (.inl (nI k)), some (.inl (nI 1)), v] [] I = Rn (d + 3) q_M_takesE 14 [some (.inr (12, 0)), some (.inl (nI o)), some (.inl (nI k)), some (.inl (nI 1)), v] [] I := by
            by_cases z : x.1 < 256
            · have l14' := l14
              rw [tk3 z] at l14'
              have l15 := hS.2.1.2.2.2.1 z
              by_cases z2 : x.1 = 40
              · have : 8 ≤ o := by omega
                simp (disch := omega) only [e_M_takesE_9, e_M_takesE_10, e_M_takesE_11, lit, nad, nml, bd_s, ct_s, ct_n, a11, a01, aB2, bitA, nlt, nle, neq, dlT, dlF, deT, deF, dqT, dqF, nN, inb, nsb, ndv, nrm, if_true, if_false, ite_true, ite_false, true_and, and_true, and_self, and_false, false_and, or_true, true_or, or_false, false_or, or_self, ↓reduceIte, eq_self, Nat.reduceAdd, Nat.reduceMul, Nat.reduceSub, Nat.reduceDiv, Nat.reduceMod, Nat.zero_add, Nat.mul_zero, not_true_eq_false, not_false_eq_true, up_T, up_F, wr_T, wr_F, ngE, ngE', ngL, ngL', ngQ, ngQ', l14', l15, z2]
              · simp (disch := omega) only [e_M_takesE_9, e_M_takesE_10, lit, nad, nml, bd_s, ct_s, ct_n, a11, a01, aB2, bitA, nlt, nle, neq, dlT, dlF, deT, deF, dqT, dqF, nN, inb, nsb, ndv, nrm, if_true, if_false, ite_true, ite_false, true_and, and_true, and_self, and_false, false_and, or_true, true_or, or_false, false_or, or_self, ↓reduceIte, eq_self, Nat.reduceAdd, Nat.reduceMul, Nat.reduceSub, Nat.reduceDiv, Nat.reduceMod, Nat.zero_add, Nat.mul_zero, not_true_eq_false, not_false_eq_true, up_T, up_F, wr_T, wr_F, ngE, ngE', ngL, ngL', ngQ, ngQ', l14', l15]
            · obtain ⟨z1, z2, -⟩ := tkn3 (x := x) (by omega) hx1
              simp (disch := omega) only [e_M_takesE_9, lit, nad, nml, bd_s, ct_s, ct_n, a11, a01, aB2, bitA, nlt, nle, neq, dlT, dlF, deT, deF, dqT, dqF, nN, inb, nsb, ndv, nrm, if_true, if_false, ite_true, ite_false, true_and, and_true, and_self, and_false, false_and, or_true, true_or, or_false, false_or, or_self, ↓reduceIte, eq_self, Nat.reduceAdd, Nat.reduceMul, Nat.reduceSub, Nat.reduceDiv, Nat.reduceMod, Nat.zero_add, Nat.mul_zero, not_true_eq_false, not_false_eq_true, up_T, up_F, wr_T, wr_F, ngE, ngE', ngL, ngL', ngQ, ngQ', l14]
          rw [s914]
          rcases s_takesPart d n key T x W C a I hS hX hk hW hc (by omega) with ⟨c, I1, b1, b2', b3, b4, b5⟩ | ⟨b1, b2'⟩
          · rw [b1] at h
            dsimp only at h
            have ok1 : okW (stl 6 W (C ++ [c])).1 := okW_l hW
            have ob := opd_b hX b1
            have ln := stl_n 6 W (C ++ [c])
            rw [List.length_append, List.length_singleton] at ln
            have no := s_notsOpen (d + 2) (stl 6 W (C ++ [c])).1 (stl 6 W (C ++ [c])).2 I1 b3.2.2.2.1 ok1 (by omega)
            have cl := cn_le (stl 6 W (C ++ [c])).1
            have sg : C.length + 1 ≤ (stl 6 W (C ++ [c])).2.length := by
              have : ∀ (W C : List Nat), C.length ≤ (stl 6 W C).2.length := by
                intro W
                induction W with
                | nil => intro C; exact Nat.le_refl _
                | cons c W ih =>
                  intro C
                  rw [stl]
                  split
                  · exact Nat.le_refl _
                  · exact Nat.le_trans (by rw [List.length_append]; omega) (ih (C ++ [c]))
              have := this W (C ++ [c])
              rw [List.length_append, List.length_singleton] at this
              exact this
            have res := ih (nxT T n x) false _ _ (a + 1) o _ t r I1 v h b3 (TTo_e hT b5) nw.1 ok1 (by omega) (by omega) (by omega) ho (by rw [cnO_l]; exact hcn)
            have e1 : Rn (d + 3) q_M_takesE 14 [some (.inr (12, 0)), some (.inl (nI o)), some (.inl (nI k)), some (.inl (nI 1)), v] [] I = Rn (d + 3) q_M_takesE 1 [some (.inr (12, 0)), some (.inl (nI o)), some (.inl (nI (cnN (stl 6 W (C ++ [c])).1))), some (.inl (nI (b2 false))), v] [] I1 := by
              simp (disch := omega) only [e_M_takesE_14, e_M_takesE_15, e_M_takesE_16, e_M_takesE_18, e_M_takesE_19, lit, nad, nml, bd_s, ct_s, ct_n, a11, a01, aB2, bitA, nlt, nle, neq, dlT, dlF, deT, deF, dqT, dqF, nN, inb, nsb, ndv, nrm, if_true, if_false, ite_true, ite_false, true_and, and_true, and_self, and_false, false_and, or_true, true_or, or_false, false_or, or_self, ↓reduceIte, eq_self, Nat.reduceAdd, Nat.reduceMul, Nat.reduceSub, Nat.reduceDiv, Nat.reduceMod, Nat.zero_add, Nat.mul_zero, not_true_eq_false, not_false_eq_true, up_T, up_F, wr_T, wr_F, ngE, ngE', ngL, ngL', ngQ, ngQ', b2', no, b2F]
            rw [e1]
            exact EP_tr b4 res
          · rw [b1] at h
            dsimp only at h
            cases h
            refine ⟨I, ?_, pF_rf I, fun _ => l13, fun q => by cases q⟩
            simp (disch := omega) only [e_M_takesE_14, e_M_takesE_15, e_M_takesE_17, lit, nad, nml, bd_s, ct_s, ct_n, a11, a01, aB2, bitA, nlt, nle, neq, dlT, dlF, deT, deF, dqT, dqF, nN, inb, nsb, ndv, nrm, if_true, if_false, ite_true, ite_false, true_and, and_true, and_self, and_false, false_and, or_true, true_or, or_false, false_or, or_self, ↓reduceIte, eq_self, Nat.reduceAdd, Nat.reduceMul, Nat.reduceSub, Nat.reduceDiv, Nat.reduceMod, Nat.zero_add, Nat.mul_zero, not_true_eq_false, not_false_eq_true, up_T, up_F, wr_T, wr_F, ngE, ngE', ngL, ngL', ngQ, ngQ', b2', b2F]
    | false =>
      rw [rn] at h
      by_cases c0 : x.1 = 256
      · rw [if_pos c0] at h
        have l14' : I 12 0 14 = nI 0 := by rw [l14]; unfold tkN; rw [if_pos c0]
        obtain ⟨I1, a1, a2, a3⟩ := s_RSset (d + 1) n key 0 T x W C a I hS (by decide) hW (by omega)
        have e1 : Rn (d + 3) q_M_takesE 1 [some (.inr (12, 0)), some (.inl (nI o)), some (.inl (nI k)), some (.inl (nI (b2 false))), v] [] I = Rn (d + 3) q_M_takesE 46 [some (.inr (12, 0)), some (.inl (nI o)), some (.inl (nI k)), some (.inl (nI 0)), v] [] I1 := by
          simp (disch := omega) only [e_M_takesE_1, e_M_takesE_2, e_M_takesE_45, lit, nad, nml, bd_s, ct_s, ct_n, a11, a01, aB2, bitA, nlt, nle, neq, dlT, dlF, deT, deF, dqT, dqF, nN, inb, nsb, ndv, nrm, if_true, if_false, ite_true, ite_false, true_and, and_true, and_self, and_false, false_and, or_true, true_or, or_false, false_or, or_self, ↓reduceIte, eq_self, Nat.reduceAdd, Nat.reduceMul, Nat.reduceSub, Nat.reduceDiv, Nat.reduceMod, Nat.zero_add, Nat.mul_zero, not_true_eq_false, not_false_eq_true, up_T, up_F, wr_T, wr_F, ngE, ngE', ngL, ngL', ngQ, ngQ', l14', a1, b2F]
        rw [e1]
        by_cases c1 : o = 0
        · rw [if_pos c1] at h
          cases h
          refine ⟨I1, ?_, pF_s a3, fun q => (by cases q), fun _ => ⟨a2.2.2.2.1.2.1, a2.2.2.2.2, a2.2.2.2.1.2.2.1⟩⟩
          simp (disch := omega) only [e_M_takesE_46, e_M_takesE_47, e_M_takesE_49, lit, nad, nml, bd_s, ct_s, ct_n, a11, a01, aB2, bitA, nlt, nle, neq, dlT, dlF, deT, deF, dqT, dqF, nN, inb, nsb, ndv, nrm, if_true, if_false, ite_true, ite_false, true_and, and_true, and_self, and_false, false_and, or_true, true_or, or_false, false_or, or_self, ↓reduceIte, eq_self, Nat.reduceAdd, Nat.reduceMul, Nat.reduceSub, Nat.reduceDiv, Nat.reduceMod, Nat.zero_add, Nat.mul_zero, not_true_eq_false, not_false_eq_true, up_T, up_F, wr_T, wr_F, ngE, ngE', ngL, ngL', ngQ, ngQ', b2T]
        · rw [if_neg c1] at h
          cases h
          refine ⟨I1, ?_, pF_s a3, fun _ => ?_, fun q => by cases q⟩
          · simp (disch := omega) only [e_M_takesE_46, e_M_takesE_48, e_M_takesE_49, lit, nad, nml, bd_s, ct_s, ct_n, a11, a01, aB2, bitA, nlt, nle, neq, dlT, dlF, deT, deF, dqT, dqF, nN, inb, nsb, ndv, nrm, if_true, if_false, ite_true, ite_false, true_and, and_true, and_self, and_false, false_and, or_true, true_or, or_false, false_or, or_self, ↓reduceIte, eq_self, Nat.reduceAdd, Nat.reduceMul, Nat.reduceSub, Nat.reduceDiv, Nat.reduceMod, Nat.zero_add, Nat.mul_zero, not_true_eq_false, not_false_eq_true, up_T, up_F, wr_T, wr_F, ngE, ngE', ngL, ngL', ngQ, ngQ', b2F]
          · rw [a3.2 13 (by decide) (by decide)]; exact l13
      · rw [if_neg c0] at h
        have s20 : Rn (d + 3) q_M_takesE 1 [some (.inr (12, 0)), some (.inl (nI o)), some (.inl (nI k)), some (.inl (nI (b2 false))), v] [] I = Rn (d + 3) q_M_takesE 20 [some (.inr (12, 0)), some (.inl (nI o)), some (.inl (nI k)), some (.inl (nI 0)), v] [] I := by
          have : tkN x ≠ 0 ∧ tkN x ≤ 4 := by
            by_cases z : x.1 < 256
            · rw [tk3 z]; decide
            · obtain ⟨z1, z2, z3⟩ := tkn3 (x := x) (by omega) hx1
              omega
          simp (disch := omega) only [e_M_takesE_1, e_M_takesE_2, e_M_takesE_3, lit, nad, nml, bd_s, ct_s, ct_n, a11, a01, aB2, bitA, nlt, nle, neq, dlT, dlF, deT, deF, dqT, dqF, nN, inb, nsb, ndv, nrm, if_true, if_false, ite_true, ite_false, true_and, and_true, and_self, and_false, false_and, or_true, true_or, or_false, false_or, or_self, ↓reduceIte, eq_self, Nat.reduceAdd, Nat.reduceMul, Nat.reduceSub, Nat.reduceDiv, Nat.reduceMod, Nat.zero_add, Nat.mul_zero, not_true_eq_false, not_false_eq_true, up_T, up_F, wr_T, wr_F, ngE, ngE', ngL, ngL', ngQ, ngQ', l14, b2F]
        rw [s20]
        by_cases c1 : x.1 = 41 ∧ 0 < o
        · rw [if_pos c1] at h
          have c11 := c1.1
          have c12 := c1.2
          have l14' := l14
          rw [tk3 (by omega)] at l14'
          have l15 := hS.2.1.2.2.2.1 (by omega)
          obtain ⟨I1, a1, a2, a3⟩ := s_RSset (d + 1) n key 0 T x W C a I hS (by decide) hW (by omega)
          obtain ⟨W2, w2⟩ := stl0_h (W := W) (C := C) (by omega)
          have ln := stl_n 0 W C
          have ok1 : okW (stl 0 W C).1 := okW_l hW
          have co : cnO (stl 0 W C).1 = cnO W := cnO_l
          have sgC : C.length ≤ (stl 0 W C).2.length := by
            have : ∀ (W C : List Nat), C.length ≤ (stl 0 W C).2.length := by
              intro W
              induction W with
              | nil => intro C; exact Nat.le_refl _
              | cons c W ih =>
                intro C
                rw [stl]
                split
                · exact Nat.le_refl _
                · exact Nat.le_trans (by rw [List.length_append]; omega) (ih (C ++ [c]))
            exact this W C
          generalize (stl 0 W C).2 = C1 at *
          generalize (stl 0 W C).1 = W1 at *
          subst w2
          rw [List.tail_cons] at h
          rw [List.length_cons] at ln
          rw [cnO, if_pos rfl] at co
          have ok2 := (okW_t ok1).2
          have g24 : I1 12 0 24 = nI (W2.length + 1) := a2.2.2.2.1.1
          have S2 : RS T n key x W2 C1 a (mm_up I1 12 0 24 (nI W2.length)) := by
            obtain ⟨r1, r2, r3, r4, r5⟩ := a2
            exact ⟨TR_u r1 (by decide), LR_e r2 (fun j h1 h2 => by rw [up_F (by omega)]), by rw [up_F (by omega)]; exact r3, ⟨up_s _ _ _ _ _, by rw [up_F (by omega)]; exact r4.2.1, fun p hp => by rw [up_F (by omega)]; exact r4.2.2.1 p hp, fun p hp => by rw [up_F (by omega)]; exact RW_pop r4 p hp⟩, by rw [up_F (by omega)]; exact r5⟩
          obtain ⟨I2, b1, b2', b3⟩ := s_RSset (d + 1) n key 6 T x W2 C1 a _ S2 (by decide) ok2 (by omega)
          have ln2 := stl_n 6 W2 C1
          have ok3 : okW (stl 6 W2 C1).1 := okW_l ok2
          have no := s_notsOpen (d + 2) (stl 6 W2 C1).1 (stl 6 W2 C1).2 I2 b2'.2.2.2.1 ok3 (by omega)
          have cl := cn_le (stl 6 W2 C1).1
          have co3 : cnO (stl 6 W2 C1).1 = cnO W2 := cnO_l
          have sgC2 : C1.length ≤ (stl 6 W2 C1).2.length := by
            have : ∀ (W C : List Nat), C.length ≤ (stl 6 W C).2.length := by
              intro W
              induction W with
              | nil => intro C; exact Nat.le_refl _
              | cons c W ih =>
                intro C
                rw [stl]
                split
                · exact Nat.le_refl _
                · exact Nat.le_trans (by rw [List.length_append]; omega) (ih (C ++ [c]))
            exact this W2 C1
          obtain ⟨I3, d1, d2, d3⟩ := s_RSgo (d + 1) n key T x _ _ a I2 b2' hX (by omega) (by omega)
          have res := ih (nxT T n x) false _ _ a (o - 1) _ t r I3 v h d2 (fun j hj => by
            rw [d3.1 201 (by decide), b3.1 201 (by decide), up_F (by omega), a3.1 201 (by decide)]
            exact hT j (by omega)) nw.1 ok3 (by omega) (by omega) (by omega) (by omega) (by omega)
          have e1 : Rn (d + 3) q_M_takesE 20 [some (.inr (12, 0)), some (.inl (nI o)), some (.inl (nI k)), some (.inl (nI 0)), v] [] I = Rn (d + 3) q_M_takesE 1 [some (.inr (12, 0)), some (.inl (nI (o - 1))), some (.inl (nI (cnN (stl 6 W2 C1).1))), some (.inl (nI (b2 false))), v] [] I3 := by
            have om : nI o + -nI 1 = nI (o - 1) := nmn (by omega)
            simp (disch := omega) only [e_M_takesE_20, e_M_takesE_21, e_M_takesE_22, e_M_takesE_23, e_M_takesE_24, e_M_takesE_25, e_M_takesE_26, e_M_takesE_27, lit, nad, nml, bd_s, ct_s, ct_n, a11, a01, aB2, bitA, nlt, nle, neq, dlT, dlF, deT, deF, dqT, dqF, nN, inb, nsb, ndv, nrm, if_true, if_false, ite_true, ite_false, true_and, and_true, and_self, and_false, false_and, or_true, true_or, or_false, false_or, or_self, ↓reduceIte, eq_self, Nat.reduceAdd, Nat.reduceMul, Nat.reduceSub, Nat.reduceDiv, Nat.reduceMod, Nat.zero_add, Nat.mul_zero, not_true_eq_false, not_false_eq_true, up_T, up_F, wr_T, wr_F, ngE, ngE', ngL, ngL', ngQ, ngQ', l14', l15, c11, a1, g24, Nat.add_sub_cancel, b1, no, d1, om, b2F]
          rw [e1]
          exact EP_tr (pF_tr (pF_s a3) (pF_tr (pF_j (pF_rf I1) (by omega)) (pF_tr (pF_s b3) (pF_g d3)))) res
        · rw [if_neg c1] at h
          have s28 : Rn (d + 3) q_M_takesE 20 [some (.inr (12, 0)), some (.inl (nI o)), some (.inl (nI k)), some (.inl (nI 0)), v] [] I = Rn (d + 3) q_M_takesE 28 [some (.inr (12, 0)), some (.inl (nI o)), some (.inl (nI k)), some (.inl (nI 0)), v] [] I := by
            by_cases z : x.1 < 256
            · have l14' := l14
              rw [tk3 z] at l14'
              have l15 := hS.2.1.2.2.2.1 z
              by_cases z2 : x.1 = 41
              · have : o = 0 := by omega
                simp (disch := omega) only [e_M_takesE_20, e_M_takesE_21, e_M_takesE_22, lit, nad, nml, bd_s, ct_s, ct_n, a11, a01, aB2, bitA, nlt, nle, neq, dlT, dlF, deT, deF, dqT, dqF, nN, inb, nsb, ndv, nrm, if_true, if_false, ite_true, ite_false, true_and, and_true, and_self, and_false, false_and, or_true, true_or, or_false, false_or, or_self, ↓reduceIte, eq_self, Nat.reduceAdd, Nat.reduceMul, Nat.reduceSub, Nat.reduceDiv, Nat.reduceMod, Nat.zero_add, Nat.mul_zero, not_true_eq_false, not_false_eq_true, up_T, up_F, wr_T, wr_F, ngE, ngE', ngL, ngL', ngQ, ngQ', l14', l15, z2]
              · simp (disch := omega) only [e_M_takesE_20, e_M_takesE_21, lit, nad, nml, bd_s, ct_s, ct_n, a11, a01, aB2, bitA, nlt, nle, neq, dlT, dlF, deT, deF, dqT, dqF, nN, inb, nsb, ndv, nrm, if_true, if_false, ite_true, ite_false, true_and, and_true, and_self, and_false, false_and, or_true, true_or, or_false, false_or, or_self, ↓reduceIte, eq_self, Nat.reduceAdd, Nat.reduceMul, Nat.reduceSub, Nat.reduceDiv, Nat.reduceMod, Nat.zero_add, Nat.mul_zero, not_true_eq_false, not_false_eq_true, up_T, up_F, wr_T, wr_F, ngE, ngE', ngL, ngL', ngQ, ngQ', l14', l15]
            · obtain ⟨z1, z2, -⟩ := tkn3 (x := x) (by omega) hx1
              simp (disch := omega) only [e_M_takesE_20, lit, nad, nml, bd_s, ct_s, ct_n, a11, a01, aB2, bitA, nlt, nle, neq, dlT, dlF, deT, deF, dqT, dqF, nN, inb, nsb, ndv, nrm, if_true, if_false, ite_true, ite_false, true_and, and_true, and_self, and_false, false_and, or_true, true_or, or_false, false_or, or_self, ↓reduceIte, eq_self, Nat.reduceAdd, Nat.reduceMul, Nat.reduceSub, Nat.reduceDiv, Nat.reduceMod, Nat.zero_add, Nat.mul_zero, not_true_eq_false, not_false_eq_true, up_T, up_F, wr_T, wr_F, ngE, ngE', ngL, ngL', ngQ, ngQ', l14]
          rw [s28]
          by_cases c2 : rkS x.1 = 0 ∨ (rkS x.1 = 3 ∧ t o = true)
          · rw [if_pos c2] at h
            cases h
            refine ⟨I, ?_, pF_rf I, fun _ => l13, fun q => by cases q⟩
            rw [s_sgnN d n o k T x t v I hS.2.1 hx1 ho (hT o (Nat.le_refl _)) c2, b2F]
          · rw [if_neg c2] at h
            have hr : rkS x.1 ≠ 0 := fun q => c2 (Or.inl q)
            have hs := rkS_0 hr
            have hrb := rkS_b x.1
            have sg := s_sgn d n o k T x t v I hS.2.1 hx1 ho (hT o (Nat.le_refl _)) hr (fun q => c2 (Or.inr q))
            generalize hnt : (decide (rkS x.1 = 3) || (decide (3 < rkS x.1) && t o)) = nt at *
            have S1 : RS T n key x W C a (mm_up I 201 0 o (nI (b2 nt))) := by
              obtain ⟨r1, r2, r3, r4, r5⟩ := hS
              exact ⟨TR_e r1 (by rw [up_F (by omega)]) (by funext i j; rw [up_F (by omega)]), LR_e r2 (fun j h1 h2 => by rw [up_F (by omega)]), by rw [up_F (by omega)]; exact r3, RW_e r4 (by rw [up_F (by omega)]) (by rw [up_F (by omega)]) (by funext i j; rw [up_F (by omega)]) (by funext i j; rw [up_F (by omega)]), by rw [up_F (by omega)]; exact r5⟩
            obtain ⟨I1, a1, a2, a3⟩ := s_RSset (d + 1) n key (rkS x.1) T x W C a _ S1 (by omega) hW (by omega)
            have ln := stl_n (rkS x.1) W C
            have ok1 : okW (stl (rkS x.1) W C).1 := okW_l hW
            have co : cnO (stl (rkS x.1) W C).1 = cnO W := cnO_l
            have sgC : C.length ≤ (stl (rkS x.1) W C).2.length := by
              have : ∀ (l : Nat) (W C : List Nat), C.length ≤ (stl l W C).2.length := by
                intro l W
                induction W with
                | nil => intro C; exact Nat.le_refl _
                | cons c W ih =>
                  intro C
                  rw [stl]
                  split
                  · exact Nat.le_refl _
                  · exact Nat.le_trans (by rw [List.length_append]; omega) (ih (C ++ [c]))
              exact this _ W C
            generalize (stl (rkS x.1) W C).2 = C1 at *
            generalize (stl (rkS x.1) W C).1 = W1 at *
            have g24 : I1 12 0 24 = nI W1.length := a2.2.2.2.1.1
            have wc : wcR (20000 + x.1) = dcR (20000 + x.1) := if_neg (by omega)
            have S2 : RS T n key x ((20000 + x.1) :: W1) C1 a (mm_up (mm_up I1 55 0 W1.length (dcR (20000 + x.1))) 12 0 24 (nI (W1.length + 1))) := by
              obtain ⟨r1, r2, r3, r4, r5⟩ := a2
              exact ⟨TR_e r1 (by rw [up_F (by omega), up_F (by omega)]) (by funext i j; rw [up_F (by omega), up_F (by omega)]), LR_e r2 (fun j h1 h2 => by rw [up_F (by omega), up_F (by omega)]), by rw [up_F (by omega), up_F (by omega)]; exact r3, RW_push r4 (up_s _ _ _ _ _) (by rw [up_F (by omega), up_F (by omega)]) (by funext i j; rw [up_F (by omega), up_F (by omega)]) (by rw [up_F (by omega), up_s, wc]) (fun p hp => by rw [up_F (by omega), up_F (by omega)]), by rw [up_F (by omega), up_F (by omega)]; exact r5⟩
            obtain ⟨I2, b1, b2', b3⟩ := s_RSgo (d + 1) n key T x _ _ a _ S2 hX (by omega) (by omega)
            have res := ih (nxT T n x) true ((20000 + x.1) :: W1) C1 a o k (uB t o nt) r I2 (some (.inl (dcR (20000 + x.1)))) h b2' (fun j hj => by
              rw [b3.1 201 (by decide), up_F (by omega), up_F (by omega), a3.1 201 (by decide)]
              unfold uB
              by_cases q : j = o
              · rw [q, up_s, if_pos rfl]
              · rw [up_F (by omega), if_neg q]; exact hT j hj) nw.1 (okW_c (okW_s hr) ok1) (by rw [List.length_cons]; omega) (by omega) hk2 ho (by rw [cnO, if_neg (by omega), co]; exact hcn)
            have e1 : Rn (d + 3) q_M_takesE 42 [some (.inr (12, 0)), some (.inl (nI o)), some (.inl (nI k)), some (.inl (nI 0)), some (.inl (dcR (20000 + x.1)))] [.inl (nI (rkS x.1)), .inr (12, 0)] (mm_up I 201 0 o (nI (b2 nt))) = Rn (d + 3) q_M_takesE 1 [some (.inr (12, 0)), some (.inl (nI o)), some (.inl (nI k)), some (.inl (nI (b2 true))), some (.inl (dcR (20000 + x.1)))] [] I2 := by
              simp (disch := omega) only [e_M_takesE_42, e_M_takesE_43, e_M_takesE_44, lit, nad, nml, bd_s, ct_s, ct_n, a11, a01, aB2, bitA, nlt, nle, neq, dlT, dlF, deT, deF, dqT, dqF, nN, inb, nsb, ndv, nrm, if_true, if_false, ite_true, ite_false, true_and, and_true, and_self, and_false, false_and, or_true, true_or, or_false, false_or, or_self, ↓reduceIte, eq_self, Nat.reduceAdd, Nat.reduceMul, Nat.reduceSub, Nat.reduceDiv, Nat.reduceMod, Nat.zero_add, Nat.mul_zero, not_true_eq_false, not_false_eq_true, up_T, up_F, wr_T, wr_F, ngE, ngE', ngL, ngL', ngQ, ngQ', a1, g24, b1, b2T]
            rw [sg, e1]
            exact EP_tr (pF_tr (pF_k (pF_rf I) (by omega)) (pF_tr (pF_s a3) (pF_tr (pF_j (pF_k (pF_rf I1) (by omega)) (by omega)) (pF_g b3)))) res
