/-! The reference takes the key; what it does with the tape. -/
theorem ky_e : ∀ w, w < 4 → mm_at 0 kyA (w + 1) - mm_at 0 kyA w = wlN w ∧ mm_at 0 kyA w ≤ mm_at 0 kyA (w + 1) ∧ mm_at 0 kyA (w + 1) ≤ 18 ∧ 1 ≤ wlN w ∧ wlN w ≤ 5 := by decide
theorem kc_e : ∀ w, w < 4 → ∀ i, i < 5 → i < wlN w → mm_at 0 kyC (mm_at 0 kyA w + i) = wcN w i ∧ wcN w i ≤ 255 := by decide
theorem s_tkWord (d n w : Nat) (T : Nat → Nat) (x : LX) (v3 v4 : Option mm_V) (v2 : Option mm_V) (I : mm_I) (hT : TR T n I) (hL : LR T x I) (hX : WX T n x) (h7 : x.1 = 257) (hK : Kst I) (hw : w < 4) : ∃ u2 u3 u4, Rn d q_M_takesKey 3 [some (.inr (12, 0)), some (.inl (nI w)), v2, v3, v4] [] I = (if kyW T x w = true then Rn d q_M_takesKey 15 [some (.inr (12, 0)), some (.inl (nI w)), some (.inl u2), some (.inl u3), some (.inl u4)] [] I else Rn d q_M_takesKey 3 [some (.inr (12, 0)), some (.inl (nI (w + 1))), some (.inl u2), some (.inl u3), some (.inl u4)] [] I) := by
  have hn := hT.1
  obtain ⟨hx1, hx2, q | ⟨-, hx3, -⟩⟩ := hX
  · omega
  have l12 := hL.1
  have l13 := hL.2.1
  obtain ⟨k1, k2, k3, k4, k5⟩ := ky_e w hw
  have a0 := hK.2.1 w (by omega)
  have a1 := hK.2.1 (w + 1) (by omega)
  generalize hq0 : mm_at 0 kyA w = q0 at *
  generalize hq1 : mm_at 0 kyA (w + 1) = q1 at *
  have st : Rn d q_M_takesKey 3 [some (.inr (12, 0)), some (.inl (nI w)), v2, v3, v4] [] I = Rn d q_M_takesKey 8 [some (.inr (12, 0)), some (.inl (nI w)), some (.inl (nI (wlN w))), some (.inl (nI (b2 (x.2.2 - x.2.1 == wlN w)))), some (.inl (nI 0))] [] I := by
    by_cases e : x.2.2 - x.2.1 = wlN w
    · rw [beq_iff_eq.mpr e]
      simp (disch := omega) only [e_M_takesKey_4, e_M_takesKey_5, e_M_takesKey_6, e_M_takesKey_7, e_M_takesKey_3 (x1 := nI w), lit, nad, nml, bd_s, ct_s, ct_n, a11, a01, aB2, bitA, nlt, nle, neq, dlT, dlF, deT, deF, dqT, dqF, nN, inb, nsb, ndv, nrm, if_true, if_false, ite_true, ite_false, true_and, and_true, and_self, and_false, false_and, or_true, true_or, or_false, false_or, or_self, ↓reduceIte, eq_self, Nat.reduceAdd, Nat.reduceMul, Nat.reduceSub, Nat.reduceDiv, Nat.reduceMod, Nat.zero_add, Nat.mul_zero, not_true_eq_false, not_false_eq_true, up_T, up_F, wr_T, wr_F, ngE, ngE', ngL, ngL', ngQ, ngQ', l12, l13, a0, a1, k1, b2T]
    · rw [beq_eq_false_iff_ne.mpr e]
      simp (disch := omega) only [e_M_takesKey_4, e_M_takesKey_5, e_M_takesKey_6, e_M_takesKey_7, e_M_takesKey_3 (x1 := nI w), lit, nad, nml, bd_s, ct_s, ct_n, a11, a01, aB2, bitA, nlt, nle, neq, dlT, dlF, deT, deF, dqT, dqF, nN, inb, nsb, ndv, nrm, if_true, if_false, ite_true, ite_false, true_and, and_true, and_self, and_false, false_and, or_true, true_or, or_false, false_or, or_self, ↓reduceIte, eq_self, Nat.reduceAdd, Nat.reduceMul, Nat.reduceSub, Nat.reduceDiv, Nat.reduceMod, Nat.zero_add, Nat.mul_zero, not_true_eq_false, not_false_eq_true, up_T, up_F, wr_T, wr_F, ngE, ngE', ngL, ngL', ngQ, ngQ', l12, l13, a0, a1, k1, b2F]
  have in14 : ∃ u4, Rn d q_M_takesKey 8 [some (.inr (12, 0)), some (.inl (nI w)), some (.inl (nI (wlN w))), some (.inl (nI (b2 (x.2.2 - x.2.1 == wlN w)))), some (.inl (nI 0))] [] I = Rn d q_M_takesKey 14 [some (.inr (12, 0)), some (.inl (nI w)), some (.inl (nI (wlN w))), some (.inl (nI (b2 (kyW T x w)))), some (.inl u4)] [] I := by
    unfold kyW
    by_cases e : x.2.2 - x.2.1 = wlN w
    rotate_left
    · rw [beq_eq_false_iff_ne.mpr e, Bool.false_and]
      exact ⟨nI 0, by simp (disch := omega) only [e_M_takesKey_8, e_M_takesKey_9, lit, nad, nml, bd_s, ct_s, ct_n, a11, a01, aB2, bitA, nlt, nle, neq, dlT, dlF, deT, deF, dqT, dqF, nN, inb, nsb, ndv, nrm, if_true, if_false, ite_true, ite_false, true_and, and_true, and_self, and_false, false_and, or_true, true_or, or_false, false_or, or_self, ↓reduceIte, eq_self, Nat.reduceAdd, Nat.reduceMul, Nat.reduceSub, Nat.reduceDiv, Nat.reduceMod, Nat.zero_add, Nat.mul_zero, not_true_eq_false, not_false_eq_true, up_T, up_F, wr_T, wr_F, ngE, ngE', ngL, ngL', ngQ, ngQ', b2F]⟩
    · rw [beq_iff_eq.mpr e, Bool.true_and]
      refine lpX (n := wlN w) (σ := Unit) (fun i _ => Rn d q_M_takesKey 8 [some (.inr (12, 0)), some (.inl (nI w)), some (.inl (nI (wlN w))), some (.inl (nI (b2 true))), some (.inl (nI i))] [] I) (fun i _ => an (fun i => !(T (x.2.1 + i) == wcN w i)) i = false) (fun q => ∃ u4, q = Rn d q_M_takesKey 14 [some (.inr (12, 0)), some (.inl (nI w)), some (.inl (nI (wlN w))), some (.inl (nI (b2 (!an (fun i => !(T (x.2.1 + i) == wcN w i)) (wlN w))))), some (.inl u4)] [] I) (fun i _ hi hV => ?_) (fun _ hV => ?_) 0 () (Nat.zero_le _) rfl
      · obtain ⟨c1, c2⟩ := kc_e w hw i (by omega) hi
        obtain ⟨b1, l52⟩ := hT.2.2 (x.2.1 + i) (by omega)
        have l210 := hK.2.2 (q0 + i) (by omega)
        rw [hq0] at c1
        rw [c1] at l210
        by_cases z : T (x.2.1 + i) = wcN w i
        · right
          refine ⟨(), ?_, ?_⟩
          · rw [an, hV, beq_iff_eq.mpr z]; rfl
          · simp (disch := omega) only [e_M_takesKey_9, e_M_takesKey_10, e_M_takesKey_11, e_M_takesKey_13, e_M_takesKey_8 (x4 := nI i), lit, nad, nml, bd_s, ct_s, ct_n, a11, a01, aB2, bitA, nlt, nle, neq, dlT, dlF, deT, deF, dqT, dqF, nN, inb, nsb, ndv, nrm, if_true, if_false, ite_true, ite_false, true_and, and_true, and_self, and_false, false_and, or_true, true_or, or_false, false_or, or_self, ↓reduceIte, eq_self, Nat.reduceAdd, Nat.reduceMul, Nat.reduceSub, Nat.reduceDiv, Nat.reduceMod, Nat.zero_add, Nat.mul_zero, not_true_eq_false, not_false_eq_true, up_T, up_F, wr_T, wr_F, ngE, ngE', ngL, ngL', ngQ, ngQ', l13, l52, a0, l210, b2T]
        · left
          have av : an (fun i => !(T (x.2.1 + i) == wcN w i)) (wlN w) = true := an_iff.mpr ⟨i, hi, by rw [beq_eq_false_iff_ne.mpr z]; rfl⟩
          rw [av]
          refine ⟨nI (i + 1), ?_⟩
          have s1 : Rn d q_M_takesKey 8 [some (.inr (12, 0)), some (.inl (nI w)), some (.inl (nI (wlN w))), some (.inl (nI (b2 true))), some (.inl (nI i))] [] I = Rn d q_M_takesKey 8 [some (.inr (12, 0)), some (.inl (nI w)), some (.inl (nI (wlN w))), some (.inl (nI 0)), some (.inl (nI (i + 1)))] [] I := by
            simp (disch := omega) only [e_M_takesKey_9, e_M_takesKey_10, e_M_takesKey_12, e_M_takesKey_13, e_M_takesKey_8 (x4 := nI i), lit, nad, nml, bd_s, ct_s, ct_n, a11, a01, aB2, bitA, nlt, nle, neq, dlT, dlF, deT, deF, dqT, dqF, nN, inb, nsb, ndv, nrm, if_true, if_false, ite_true, ite_false, true_and, and_true, and_self, and_false, false_and, or_true, true_or, or_false, false_or, or_self, ↓reduceIte, eq_self, Nat.reduceAdd, Nat.reduceMul, Nat.reduceSub, Nat.reduceDiv, Nat.reduceMod, Nat.zero_add, Nat.mul_zero, not_true_eq_false, not_false_eq_true, up_T, up_F, wr_T, wr_F, ngE, ngE', ngL, ngL', ngQ, ngQ', l13, l52, a0, l210, b2T]
          rw [s1]
          by_cases z2 : i + 1 < wlN w
          · simp (disch := omega) only [e_M_takesKey_8, e_M_takesKey_9, lit, nad, nml, bd_s, ct_s, ct_n, a11, a01, aB2, bitA, nlt, nle, neq, dlT, dlF, deT, deF, dqT, dqF, nN, inb, nsb, ndv, nrm, if_true, if_false, ite_true, ite_false, true_and, and_true, and_self, and_false, false_and, or_true, true_or, or_false, false_or, or_self, ↓reduceIte, eq_self, Nat.reduceAdd, Nat.reduceMul, Nat.reduceSub, Nat.reduceDiv, Nat.reduceMod, Nat.zero_add, Nat.mul_zero, not_true_eq_false, not_false_eq_true, up_T, up_F, wr_T, wr_F, ngE, ngE', ngL, ngL', ngQ, ngQ', Bool.not_true, b2F]
          · simp (disch := omega) only [e_M_takesKey_8, lit, nad, nml, bd_s, ct_s, ct_n, a11, a01, aB2, bitA, nlt, nle, neq, dlT, dlF, deT, deF, dqT, dqF, nN, inb, nsb, ndv, nrm, if_true, if_false, ite_true, ite_false, true_and, and_true, and_self, and_false, false_and, or_true, true_or, or_false, false_or, or_self, ↓reduceIte, eq_self, Nat.reduceAdd, Nat.reduceMul, Nat.reduceSub, Nat.reduceDiv, Nat.reduceMod, Nat.zero_add, Nat.mul_zero, not_true_eq_false, not_false_eq_true, up_T, up_F, wr_T, wr_F, ngE, ngE', ngL, ngL', ngQ, ngQ', Bool.not_true, b2F]
      · rw [hV]
        exact ⟨nI (wlN w), by simp (disch := omega) only [e_M_takesKey_8, lit, nad, nml, bd_s, ct_s, ct_n, a11, a01, aB2, bitA, nlt, nle, neq, dlT, dlF, deT, deF, dqT, dqF, nN, inb, nsb, ndv, nrm, if_true, if_false, ite_true, ite_false, true_and, and_true, and_self, and_false, false_and, or_true, true_or, or_false, false_or, or_self, ↓reduceIte, eq_self, Nat.reduceAdd, Nat.reduceMul, Nat.reduceSub, Nat.reduceDiv, Nat.reduceMod, Nat.zero_add, Nat.mul_zero, not_true_eq_false, not_false_eq_true, up_T, up_F, wr_T, wr_F, ngE, ngE', ngL, ngL', ngQ, ngQ', Bool.not_false]⟩
  obtain ⟨u4, hu⟩ := in14
  rw [st, hu]
  cases z : kyW T x w with
  | true =>
    refine ⟨nI (wlN w), nI 1, u4, ?_⟩
    rw [if_pos rfl, e_M_takesKey_14, if_neg (by decide)]
    rfl
  | false =>
    refine ⟨nI (wlN w), nI 0, u4, ?_⟩
    rw [if_neg (by decide), e_M_takesKey_14, if_pos (by decide), e_M_takesKey_17, show nI w + (1 : Int32) = nI (w + 1) from nad w 1]
    rfl
def g6 (I I' : mm_I) : Prop := eqo [12] I I' ∧ ∀ j, ¬ (12 ≤ j ∧ j ≤ 17) → I' 12 0 j = I 12 0 j
theorem s_takesKey (d n : Nat) (T : Nat → Nat) (x : LX) (I : mm_I) (hT : TR T n I) (hL : LR T x I) (hX : WX T n x) (hK : Kst I) : (kyK T x = none ∧ Sn (d + 3) q_M_takesKey [.inr (12, 0)] I = some (some (.inl (nI 0)), (sh0, I))) ∨ ∃ key I', kyK T x = some key ∧ Sn (d + 3) q_M_takesKey [.inr (12, 0)] I = some (some (.inl (nI 1)), (sh0, I')) ∧ TR T n I' ∧ LR T (nxT T n x) I' ∧ I' 12 0 17 = nI key ∧ g6 I I' := by
  have l14 := hL.2.2.1
  have hx1 := hX.1
  unfold kyK
  by_cases e : x.1 = 257
  rotate_left
  · left
    rw [if_neg e]
    refine ⟨rfl, ?_⟩
    have : tkN x ≠ 1 ∧ tkN x ≤ 4 := by
      unfold tkN
      by_cases q : x.1 = 256
      · rw [if_pos q]; omega
      · rw [if_neg q, if_neg e]
        split
        · split <;> omega
        · split <;> omega
    simp (disch := omega) only [n_M_takesKey, e_M_takesKey_0, e_M_takesKey_1, lit, nad, nml, bd_s, ct_s, ct_n, a11, a01, aB2, bitA, nlt, nle, neq, dlT, dlF, deT, deF, dqT, dqF, nN, inb, nsb, ndv, nrm, if_true, if_false, ite_true, ite_false, true_and, and_true, and_self, and_false, false_and, or_true, true_or, or_false, false_or, or_self, ↓reduceIte, eq_self, Nat.reduceAdd, Nat.reduceMul, Nat.reduceSub, Nat.reduceDiv, Nat.reduceMod, Nat.zero_add, Nat.mul_zero, not_true_eq_false, not_false_eq_true, up_T, up_F, wr_T, wr_F, ngE, ngE', ngL, ngL', ngQ, ngQ', l14]
  · rw [if_pos e]
    have tk : tkN x = 1 := by unfold tkN; rw [if_neg (by omega), if_pos e]
    rw [tk] at l14
    have s0 : Sn (d + 3) q_M_takesKey [.inr (12, 0)] I = Rn (d + 2) q_M_takesKey 3 [some (.inr (12, 0)), some (.inl (nI 0)), none, none, none] [] I := by
      simp (disch := omega) only [n_M_takesKey, e_M_takesKey_0, e_M_takesKey_2, lit, nad, nml, bd_s, ct_s, ct_n, a11, a01, aB2, bitA, nlt, nle, neq, dlT, dlF, deT, deF, dqT, dqF, nN, inb, nsb, ndv, nrm, if_true, if_false, ite_true, ite_false, true_and, and_true, and_self, and_false, false_and, or_true, true_or, or_false, false_or, or_self, ↓reduceIte, eq_self, Nat.reduceAdd, Nat.reduceMul, Nat.reduceSub, Nat.reduceDiv, Nat.reduceMod, Nat.zero_add, Nat.mul_zero, not_true_eq_false, not_false_eq_true, up_T, up_F, wr_T, wr_F, ngE, ngE', ngL, ngL', ngQ, ngQ', l14]
    rw [s0]
    refine lpX (n := 4) (σ := Option mm_V × Option mm_V × Option mm_V) (fun w s => Rn (d + 2) q_M_takesKey 3 [some (.inr (12, 0)), some (.inl (nI w)), s.1, s.2.1, s.2.2] [] I) (fun w _ => ∀ i, i < w → kyW T x i = false) (fun q => (fs (kyW T x) 0 4 = none ∧ q = some (some (.inl (nI 0)), (sh0, I))) ∨ ∃ key I', fs (kyW T x) 0 4 = some key ∧ q = some (some (.inl (nI 1)), (sh0, I')) ∧ TR T n I' ∧ LR T (nxT T n x) I' ∧ I' 12 0 17 = nI key ∧ g6 I I') ?_ ?_ 0 (none, none, none) (Nat.zero_le _) (fun i hi => absurd hi (Nat.not_lt_zero _))
    · rintro w ⟨v2, v3, v4⟩ hw hV
      dsimp only
      obtain ⟨u2, u3, u4, hu⟩ := s_tkWord (d + 2) n w T x v3 v4 v2 I hT hL hX e hK hw
      rw [hu]
      cases z : kyW T x w with
      | true =>
        left
        right
        have E0 := hL.2.2.2.2.2.2 (by omega) (by omega)
        obtain ⟨I', a1, a2, a3⟩ := s_go d n T x (mm_up I 12 0 17 (nI w)) (TR_u hT (by decide)) (by rw [up_F (by omega)]; exact hL.1) (by unfold EN; rw [up_F (by omega)]; exact E0) hX.2.1
        refine ⟨w, I', fs_of (Nat.zero_le _) (by omega) z (fun i _ hi => hV i hi), ?_, TR_g (TR_u hT (by decide)) a3, a2, by rw [a3.2 17 (by omega), up_s], eqo_tr (eqo_up (eqo_rf _ _) (by decide)) a3.1, fun j hj => by rw [a3.2 j (by omega), up_F (by omega)]⟩
        rw [if_pos rfl]
        simp (disch := omega) only [e_M_takesKey_15, e_M_takesKey_16, lit, nad, nml, bd_s, ct_s, ct_n, a11, a01, aB2, bitA, nlt, nle, neq, dlT, dlF, deT, deF, dqT, dqF, nN, inb, nsb, ndv, nrm, if_true, if_false, ite_true, ite_false, true_and, and_true, and_self, and_false, false_and, or_true, true_or, or_false, false_or, or_self, ↓reduceIte, eq_self, Nat.reduceAdd, Nat.reduceMul, Nat.reduceSub, Nat.reduceDiv, Nat.reduceMod, Nat.zero_add, Nat.mul_zero, not_true_eq_false, not_false_eq_true, up_T, up_F, wr_T, wr_F, ngE, ngE', ngL, ngL', ngQ, ngQ', a1]
      | false =>
        right
        refine ⟨(some (.inl u2), some (.inl u3), some (.inl u4)), fun i hi => ?_, ?_⟩
        · by_cases q : i = w
          · rw [q]; exact z
          · exact hV i (by omega)
        · rw [if_neg (by decide)]
    · rintro ⟨v2, v3, v4⟩ hV
      dsimp only
      left
      refine ⟨fs_nof (fun i _ hi => hV i (by omega)), ?_⟩
      rw [e_M_takesKey_3, if_neg (by decide), e_M_takesKey_18]
      rfl
/-- what a text changes in the reference ahead of the writing -/
def tF (I I' : mm_I) : Prop := eqo [12, 54, 55, 201] I I' ∧ ∀ j, ¬ (11 ≤ j ∧ j ≤ 17) → j ≠ 21 → j ≠ 22 → j ≠ 24 → I' 12 0 j = I 12 0 j
def MRq (d : Nat) (x1 x2 : Int32) (I : mm_I) : Nat ⊕ (Nat × List Nat × Nat) → mm_I → Prop
  | .inl p, I' => Rn (d + 4) q_M_text 5 [some (.inr (12, 0)), some (.inl x1), some (.inl x2), none, none, none] [] I = some (some (.inl (-nI 100 - nI p)), (sh0, I'))
  | .inr (key, C, a), I' => Rn (d + 4) q_M_text 5 [some (.inr (12, 0)), some (.inl x1), some (.inl x2), none, none, none] [] I = Rn (d + 4) q_M_text 14 [some (.inr (12, 0)), some (.inl x1), some (.inl x2), some (.inl (nI 1)), none, none] [] I' ∧ I' 12 0 17 = nI key ∧ I' 12 0 21 = nI C.length ∧ I' 12 0 22 = nI a ∧ ∀ p, p < C.length → I' 54 0 p = dcR (mm_at 0 C p)
theorem s_Mread (d n : Nat) (T : Nat → Nat) (x1 x2 : Int32) (z : Nat ⊕ (Nat × List Nat × Nat)) (I : mm_I) (hT : TR T n I) (hK : Kst I) (hz : TXo T n z) : ∃ I', tF I I' ∧ I' 12 0 11 = nI 0 ∧ MRq d x1 x2 I z I' := by
  have hn := hT.1
  have hb : ∀ p, p < n → T p ≤ 255 := fun p hp => (hT.2.2 p hp).1
  have hT0 : TR T n (mm_up (mm_up I 12 0 12 (nI 0)) 12 0 16 (-nI 1)) := TR_u (TR_u hT (by decide)) (by decide)
  obtain ⟨I1, a1, a2, a3⟩ := s_go (d + 2) n T (256, 0, 0) _ hT0 (by rw [up_F (by omega), up_s]) (fun p _ h2 => by
    rw [up_s]
    have := ngE (p := p) (m := 1) (by omega) (by decide) (by decide)
    rw [this]
    exact ⟨fun q => q.elim, fun q => by rcases q.1 with w | w <;> exact absurd w (by decide)⟩) (Nat.zero_le _)
  have nw := nx_w (x := (256, 0, 0)) (n := n) hb (Nat.zero_le _)
  have K1 : Kst I1 := Kst_eq hK (fun k i j q => by
    unfold kstC at q
    rcases q with ⟨q1, q2, q3⟩ | q | q
    · subst q1; subst q2; subst q3
      rw [a3.2 8 (by omega), up_F (by omega), up_F (by omega)]
    · rw [a3.1 k (by rw [q]; decide), up_F (by omega), up_F (by omega)]
    · rw [a3.1 k (by rw [q]; decide), up_F (by omega), up_F (by omega)])
  have t1 : tF I I1 := ⟨eqo_tr (eqo_up (eqo_up (eqo_rf _ _) (by decide)) (by decide)) (eqo_mono a3.1 (by decide)), fun j h1 _ _ _ => by rw [a3.2 j (by omega), up_F (by omega), up_F (by omega)]⟩
  unfold TXo at hz
  have s0 : Rn (d + 4) q_M_text 5 [some (.inr (12, 0)), some (.inl x1), some (.inl x2), none, none, none] [] I = Rn (d + 4) q_M_text 6 [some (.inr (12, 0)), some (.inl x1), some (.inl x2), none, none, none] [] I1 := by
    simp (disch := omega) only [e_M_text_5, lit, nad, nml, bd_s, ct_s, ct_n, a11, a01, aB2, bitA, nlt, nle, neq, dlT, dlF, deT, deF, dqT, dqF, nN, inb, nsb, ndv, nrm, if_true, if_false, ite_true, ite_false, true_and, and_true, and_self, and_false, false_and, or_true, true_or, or_false, false_or, or_self, ↓reduceIte, eq_self, Nat.reduceAdd, Nat.reduceMul, Nat.reduceSub, Nat.reduceDiv, Nat.reduceMod, Nat.zero_add, Nat.mul_zero, not_true_eq_false, not_false_eq_true, up_T, up_F, wr_T, wr_F, ngE, ngE', ngL, ngL', ngQ, ngQ', a1]
  have tU : ∀ J, tF I J → tF I (mm_up J 12 0 11 (nI 0)) := fun J h => ⟨eqo_up h.1 (by decide), fun j h1 h2 h3 h4 => by rw [up_F (by omega)]; exact h.2 j h1 h2 h3 h4⟩
  rcases s_takesKey (d + 1) n T (nxT T n (256, 0, 0)) I1 (TR_g hT0 a3) a2 nw.1 K1 with ⟨b1, b2'⟩ | ⟨key, I2, b1, b2', b3, b4, b5, b6⟩
  · rcases hz with ⟨-, z2⟩ | ⟨key, r, z1, -, -⟩
    rotate_left
    · rw [b1] at z1; cases z1
    subst z2
    refine ⟨mm_up I1 12 0 11 (nI 0), tU I1 t1, up_s _ _ _ _ _, ?_⟩
    have l13 := a2.2.1
    show Rn (d + 4) q_M_text 5 [some (.inr (12, 0)), some (.inl x1), some (.inl x2), none, none, none] [] I = _
    rw [s0]
    simp (disch := omega) only [e_M_text_6, e_M_text_7, e_M_text_11, e_M_text_12, e_M_text_13, lit, nad, nml, bd_s, ct_s, ct_n, a11, a01, aB2, bitA, nlt, nle, neq, dlT, dlF, deT, deF, dqT, dqF, nN, inb, nsb, ndv, nrm, if_true, if_false, ite_true, ite_false, true_and, and_true, and_self, and_false, false_and, or_true, true_or, or_false, false_or, or_self, ↓reduceIte, eq_self, Nat.reduceAdd, Nat.reduceMul, Nat.reduceSub, Nat.reduceDiv, Nat.reduceMod, Nat.zero_add, Nat.mul_zero, not_true_eq_false, not_false_eq_true, up_T, up_F, wr_T, wr_F, ngE, ngE', ngL, ngL', ngQ, ngQ', b2', l13]
  · rcases hz with ⟨z1, -⟩ | ⟨key', r, z1, z2, z3⟩
    · rw [b1] at z1; cases z1
    rw [b1] at z1
    cases z1
    have nw2 := nx_w (x := nxT T n (256, 0, 0)) (n := n) hb nw.1.2.1
    obtain ⟨f, hf⟩ := z2
    have S0 : RS T n key (nxT T n (nxT T n (256, 0, 0))) [] [] 0 (mm_up (mm_up (mm_up (mm_up I2 12 0 21 (nI 0)) 12 0 22 (nI 0)) 12 0 24 (nI 0)) 201 0 0 (nI 0)) := by
      refine ⟨TR_e b3 (by rw [up_F (by omega), up_F (by omega), up_F (by omega), up_F (by omega)]) (by funext i j; rw [up_F (by omega), up_F (by omega), up_F (by omega), up_F (by omega)]), LR_e b4 (fun j h1 h2 => by rw [up_F (by omega), up_F (by omega), up_F (by omega), up_F (by omega)]), by rw [up_F (by omega), up_F (by omega), up_F (by omega), up_F (by omega)]; exact b5, ⟨by rw [up_F (by omega), up_s]; rfl, by rw [up_F (by omega), up_F (by omega), up_F (by omega), up_s]; rfl, fun p hp => absurd hp (Nat.not_lt_zero _), fun p hp => absurd hp (Nat.not_lt_zero _)⟩, by rw [up_F (by omega), up_F (by omega), up_s]⟩
    obtain ⟨I3, e1, e2, e3, e4⟩ := s_tE (d) n key T (kyK_b b1).1 f _ true [] [] 0 0 0 t00 r _ none hf S0 (fun j hj => by rw [show j = 0 by omega, up_s]; rfl) nw2.1 (fun c hc => absurd hc (List.not_mem_nil)) (Nat.zero_le _) (Nat.le_refl _) (by decide) (by decide) rfl
    have t2 : tF I I2 := ⟨eqo_tr t1.1 (eqo_mono b6.1 (by decide)), fun j h1 h2 h3 h4 => by rw [b6.2 j (by omega)]; exact t1.2 j h1 h2 h3 h4⟩
    have t3 : tF I I3 := ⟨eqo_tr t2.1 (eqo_tr (eqo_up (eqo_up (eqo_up (eqo_up (eqo_rf _ _) (by decide)) (by decide)) (by decide)) (by decide)) e2.1), fun j h1 h2 h3 h4 => by rw [e2.2 j (by omega) h2 h3 h4, up_F (by omega), up_F (by omega), up_F (by omega), up_F (by omega)]; exact t2.2 j h1 h2 h3 h4⟩
    have b5' : I3 12 0 17 = nI key := by
      rw [e2.2 17 (by omega) (by decide) (by decide) (by decide), up_F (by omega), up_F (by omega), up_F (by omega), up_F (by omega)]
      exact b5
    have te : Sn (d + 4) q_M_takesE [.inr (12, 0)] I2 = some (some (.inl (nI (b2 r.1))), (sh0, I3)) := by
      rw [n_M_takesE, e_M_takesE_0, if_pos (by decide)]
      exact e1
    refine ⟨mm_up I3 12 0 11 (nI 0), tU I3 t3, up_s _ _ _ _ _, ?_⟩
    cases q : r.1 with
    | false =>
      rw [q, if_neg (by decide)] at z3
      subst z3
      have l13 := e3 q
      rw [q] at te
      show Rn (d + 4) q_M_text 5 [some (.inr (12, 0)), some (.inl x1), some (.inl x2), none, none, none] [] I = _
      rw [s0]
      simp (disch := omega) only [e_M_text_6, e_M_text_7, e_M_text_8, e_M_text_9, e_M_text_11, e_M_text_12, e_M_text_13, lit, nad, nml, bd_s, ct_s, ct_n, a11, a01, aB2, bitA, nlt, nle, neq, dlT, dlF, deT, deF, dqT, dqF, nN, inb, nsb, ndv, nrm, if_true, if_false, ite_true, ite_false, true_and, and_true, and_self, and_false, false_and, or_true, true_or, or_false, false_or, or_self, ↓reduceIte, eq_self, Nat.reduceAdd, Nat.reduceMul, Nat.reduceSub, Nat.reduceDiv, Nat.reduceMod, Nat.zero_add, Nat.mul_zero, not_true_eq_false, not_false_eq_true, up_T, up_F, wr_T, wr_F, ngE, ngE', ngL, ngL', ngQ, ngQ', b2', te, l13, b2F]
    | true =>
      rw [q, if_pos rfl] at z3
      subst z3
      obtain ⟨m1, m2, m3⟩ := e4 q
      rw [q] at te
      refine ⟨?_, by rw [up_F (by omega)]; exact b5', by rw [up_F (by omega)]; exact m1, by rw [up_F (by omega)]; exact m2, fun p hp => by rw [up_F (by omega)]; exact m3 p hp⟩
      rw [s0]
      simp (disch := omega) only [e_M_text_6, e_M_text_7, e_M_text_8, e_M_text_9, e_M_text_10, e_M_text_12, lit, nad, nml, bd_s, ct_s, ct_n, a11, a01, aB2, bitA, nlt, nle, neq, dlT, dlF, deT, deF, dqT, dqF, nN, inb, nsb, ndv, nrm, if_true, if_false, ite_true, ite_false, true_and, and_true, and_self, and_false, false_and, or_true, true_or, or_false, false_or, or_self, ↓reduceIte, eq_self, Nat.reduceAdd, Nat.reduceMul, Nat.reduceSub, Nat.reduceDiv, Nat.reduceMod, Nat.zero_add, Nat.mul_zero, not_true_eq_false, not_false_eq_true, up_T, up_F, wr_T, wr_F, ngE, ngE', ngL, ngL', ngQ, ngQ', b2', te, b2T]
