/-! Flights of the reference. -/
def FM (L : Nat) (I : mm_I) (c : Nat → Nat) : Prop := ∀ f, f < L → I 61 0 f = nI (c f)
def PF (L : Nat) (c : Nat → Nat) : Prop := ∀ f, f + 1 < L → c f = 0 → c (f + 1) = 0
theorem x_M_car14 (d L m k : Nat) (x4 x5 x6 : Int32) (I : mm_I) (hk : k < 100) : Rn d q_M_carries 14 [some (.inr (12, 0)), some (.inl (nI L)), some (.inl (nI m)), some (.inl (nI (k + 1))), some (.inl x4), some (.inl x5), some (.inl x6)] [] I = Rn d q_M_carries 15 [some (.inr (12, 0)), some (.inl (nI L)), some (.inl (nI m)), some (.inl (nI k)), some (.inl x4), some (.inl x5), some (.inl x6)] [] I := by
  have e1 : nI (k + 1) + (-1 : Int32) = nI k := nmn (b := 1) (by omega)
  rw [e_M_carries_14, ep_M_carries_14_0, e1, eb_M_carries_14]
  simp (disch := omega) only [lit, nad, nml, bd_s, ct_s, ct_n, a11, a01, aB2, bitA, nlt, nle, neq, dlT, dlF, deT, deF, dqT, dqF, nN, inb, nsb, ndv, nrm, if_true, if_false, ite_true, ite_false, true_and, and_true, and_self, and_false, false_and, or_true, true_or, or_false, false_or, or_self, ↓reduceIte, eq_self, Nat.reduceAdd, Nat.reduceMul, Nat.reduceSub, Nat.reduceDiv, Nat.reduceMod, Nat.zero_add, Nat.mul_zero, not_true_eq_false, not_false_eq_true, up_T, up_F, wr_T, wr_F, ngE, ngE', ngL, ngL', ngQ, ngQ']
theorem x_M_car14z (d L m : Nat) (x4 x5 x6 : Int32) (I : mm_I) : Rn d q_M_carries 14 [some (.inr (12, 0)), some (.inl (nI L)), some (.inl (nI m)), some (.inl (nI 0)), some (.inl x4), some (.inl x5), some (.inl x6)] [] I = Rn d q_M_carries 16 [some (.inr (12, 0)), some (.inl (nI L)), some (.inl (nI m)), some (.inl (-nI 1)), some (.inl x4), some (.inl x5), some (.inl x6)] [] I := by
  rw [e_M_carries_14, ep_M_carries_14_0, eb_M_carries_14]
  rw [show nI 0 + (-1 : Int32) = -nI 1 from by decide, if_pos (by decide)]
theorem s_carT (d L : Nat) (A : mm_A) (I0 : mm_I) (hR : RepR 0 A I0) (g : Good A) (hL : L ≤ 10) : ∀ n k (c : Nat → Nat) (v5 v6 : Option mm_V) (I : mm_I), k + n = A 0 0 6 → eqo [60, 61] I0 I → (∀ f, f < L → c f ≤ 100) → FM L I c → PF L c → ∃ I', eqo [60, 61] I I' ∧ (∀ i, i < k → I' 60 0 i = I 60 0 i) ∧ (cp (wL A) L n k c = true → (∃ a b : Option mm_V, Rn d q_M_carries 4 [some (.inr (12, 0)), some (.inl (nI L)), some (.inl (nI (A 0 0 6))), some (.inl (nI k)), some (.inl (nI 0)), v5, v6] [] I = Rn d q_M_carries 17 [some (.inr (12, 0)), some (.inl (nI L)), some (.inl (nI (A 0 0 6))), some (.inl (nI (A 0 0 6))), some (.inl (nI 0)), a, b] [] I') ∧ ∀ i, k ≤ i → i < A 0 0 6 → I' 60 0 i = nI (asg (wL A) L n k c i)) ∧ (cp (wL A) L n k c = false → (∃ x4 x5 x6 : Int32, Rn d q_M_carries 4 [some (.inr (12, 0)), some (.inl (nI L)), some (.inl (nI (A 0 0 6))), some (.inl (nI k)), some (.inl (nI 0)), v5, v6] [] I = Rn d q_M_carries 14 [some (.inr (12, 0)), some (.inl (nI L)), some (.inl (nI (A 0 0 6))), some (.inl (nI k)), some (.inl x4), some (.inl x5), some (.inl x6)] [] I') ∧ FM L I' c) := by
  have hm10 : A 0 0 6 ≤ 10 := g.2.1 4 (by decide)
  intro n
  induction n with
  | zero =>
    intro k c v5 v6 I hk e hcb hF hP
    have hk' : k = A 0 0 6 := hk
    refine ⟨I, eqo_rf _ _, fun _ _ => rfl, fun _ => ⟨⟨v5, v6, ?_⟩, fun i h1 h2 => by omega⟩, fun q => by cases q⟩
    rw [hk']
    simp (disch := omega) only [e_M_carries_4, e_M_carries_5, lit, nad, nml, bd_s, ct_s, ct_n, a11, a01, aB2, bitA, nlt, nle, neq, dlT, dlF, deT, deF, dqT, dqF, nN, inb, nsb, ndv, nrm, if_true, if_false, ite_true, ite_false, true_and, and_true, and_self, and_false, false_and, or_true, true_or, or_false, false_or, or_self, ↓reduceIte, eq_self, Nat.reduceAdd, Nat.reduceMul, Nat.reduceSub, Nat.reduceDiv, Nat.reduceMod, Nat.zero_add, Nat.mul_zero, not_true_eq_false, not_false_eq_true, up_T, up_F, wr_T, wr_F, ngE, ngE', ngL, ngL', ngQ, ngQ']
  | succ n ih =>
    intro k c v5 v6 I hk e hcb hF hP
    have hkm : k < A 0 0 6 := by omega
    have hw := wL_b g k
    have hw1 : 1 ≤ wL A k := by rw [wL_e hkm]; exact (ldG g hkm).1
    have hwt : ∀ J, eqo [60, 61] I0 J → J 47 0 (302 + k) = nI (wL A k) := fun J eJ => by
      rw [eJ 47 (by decide), wL_e hkm]
      have h : I0 47 0 (302 + 1 * k + 0) = nI (A 8 k 0) := hR.2.2.2.2 4 k 0 (by decide) hkm (by decide)
      rw [Nat.one_mul] at h
      exact h
    have k0 : ∀ (x4 : Nat) (v5 v6 : Option mm_V) J, eqo [60, 61] I0 J → Rn d q_M_carries 4 [some (.inr (12, 0)), some (.inl (nI L)), some (.inl (nI (A 0 0 6))), some (.inl (nI k)), some (.inl (nI x4)), v5, v6] [] J = Rn d q_M_carries 7 [some (.inr (12, 0)), some (.inl (nI L)), some (.inl (nI (A 0 0 6))), some (.inl (nI k)), some (.inl (nI x4)), some (.inl (nI (wL A k))), some (.inl (nI x4))] [] J := fun x4 v5 v6 J eJ => by
      have w := hwt J eJ
      simp (disch := omega) only [e_M_carries_4, e_M_carries_5, e_M_carries_6, lit, nad, nml, bd_s, ct_s, ct_n, a11, a01, aB2, bitA, nlt, nle, neq, dlT, dlF, deT, deF, dqT, dqF, nN, inb, nsb, ndv, nrm, if_true, if_false, ite_true, ite_false, true_and, and_true, and_self, and_false, false_and, or_true, true_or, or_false, false_or, or_self, ↓reduceIte, eq_self, Nat.reduceAdd, Nat.reduceMul, Nat.reduceSub, Nat.reduceDiv, Nat.reduceMod, Nat.zero_add, Nat.mul_zero, not_true_eq_false, not_false_eq_true, up_T, up_F, wr_T, wr_F, ngE, ngE', ngL, ngL', ngQ, ngQ', w]
    rw [k0 0 v5 v6 I e]
    refine lpX (n := L) (σ := Nat × mm_I) (fun f s => Rn d q_M_carries 7 [some (.inr (12, 0)), some (.inl (nI L)), some (.inl (nI (A 0 0 6))), some (.inl (nI k)), some (.inl (nI (s.1))), some (.inl (nI (wL A k))), some (.inl (nI f))] [] s.2) (fun f s => eqo [60, 61] I s.2 ∧ FM L s.2 c ∧ (∀ i, i < k → s.2 60 0 i = I 60 0 i) ∧ ∀ g, g < f → cand (wL A) L n k c g = false) (fun q => ∃ I', eqo [60, 61] I I' ∧ (∀ i, i < k → I' 60 0 i = I 60 0 i) ∧ (cp (wL A) L (n + 1) k c = true → (∃ a b : Option mm_V, q = Rn d q_M_carries 17 [some (.inr (12, 0)), some (.inl (nI L)), some (.inl (nI (A 0 0 6))), some (.inl (nI (A 0 0 6))), some (.inl (nI 0)), a, b] [] I') ∧ ∀ i, k ≤ i → i < A 0 0 6 → I' 60 0 i = nI (asg (wL A) L (n + 1) k c i)) ∧ (cp (wL A) L (n + 1) k c = false → (∃ x4 x5 x6 : Int32, q = Rn d q_M_carries 14 [some (.inr (12, 0)), some (.inl (nI L)), some (.inl (nI (A 0 0 6))), some (.inl (nI k)), some (.inl x4), some (.inl x5), some (.inl x6)] [] I') ∧ FM L I' c)) ?_ ?_ 0 (0, I) (Nat.zero_le _) ⟨eqo_rf _ _, hF, fun _ _ => rfl, fun g hg => by omega⟩
    · rintro f ⟨y, J⟩ hf ⟨j1, j2, j3, j4⟩
      dsimp only at j1 j2 j3 ⊢
      have cf := j2 f hf
      have cb := hcb f hf
      have skip : cand (wL A) L n k c f = false → ∀ g, g < f + 1 → cand (wL A) L n k c g = false := fun q g hg => by
        by_cases z : g = f
        · rw [z]; exact q
        · exact j4 g (by omega)
      by_cases c1 : 100 < c f + wL A k
      · right
        refine ⟨(y, J), ⟨j1, j2, j3, skip ?_⟩, ?_⟩
        · unfold cand
          rw [decide_eq_false (by omega), Bool.false_and]
        · simp (disch := omega) only [e_M_carries_8, e_M_carries_11, e_M_carries_7 (x6 := nI f), lit, nad, nml, bd_s, ct_s, ct_n, a11, a01, aB2, bitA, nlt, nle, neq, dlT, dlF, deT, deF, dqT, dqF, nN, inb, nsb, ndv, nrm, if_true, if_false, ite_true, ite_false, true_and, and_true, and_self, and_false, false_and, or_true, true_or, or_false, false_or, or_self, ↓reduceIte, eq_self, Nat.reduceAdd, Nat.reduceMul, Nat.reduceSub, Nat.reduceDiv, Nat.reduceMod, Nat.zero_add, Nat.mul_zero, not_true_eq_false, not_false_eq_true, up_T, up_F, wr_T, wr_F, ngE, ngE', ngL, ngL', ngQ, ngQ', cf]
      by_cases c2 : 0 < f ∧ c (f - 1) = 0
      · right
        obtain ⟨f', rfl⟩ : ∃ f', f = f' + 1 := ⟨f - 1, by omega⟩
        have c3 : c f' = 0 := c2.2
        have cf' := j2 f' (by omega)
        rw [c3] at cf'
        refine ⟨(y, J), ⟨j1, j2, j3, skip ?_⟩, ?_⟩
        · exact (cand_like (g := f') hf (by omega) (by rw [c3, hP f' hf c3])).trans (j4 f' (by omega))
        · simp (disch := omega) only [e_M_carries_8, e_M_carries_9, e_M_carries_10, e_M_carries_11, e_M_carries_7 (x6 := nI (f' + 1)), lit, nad, nml, bd_s, ct_s, ct_n, a11, a01, aB2, bitA, nlt, nle, neq, dlT, dlF, deT, deF, dqT, dqF, nN, inb, nsb, ndv, nrm, if_true, if_false, ite_true, ite_false, true_and, and_true, and_self, and_false, false_and, or_true, true_or, or_false, false_or, or_self, ↓reduceIte, eq_self, Nat.reduceAdd, Nat.reduceMul, Nat.reduceSub, Nat.reduceDiv, Nat.reduceMod, Nat.zero_add, Nat.mul_zero, not_true_eq_false, not_false_eq_true, up_T, up_F, wr_T, wr_F, ngE, ngE', ngL, ngL', ngQ, ngQ', cf, cf', Nat.add_sub_cancel]
      have g1 : Rn d q_M_carries 7 [some (.inr (12, 0)), some (.inl (nI L)), some (.inl (nI (A 0 0 6))), some (.inl (nI k)), some (.inl (nI y)), some (.inl (nI (wL A k))), some (.inl (nI f))] [] J = Rn d q_M_carries 4 [some (.inr (12, 0)), some (.inl (nI L)), some (.inl (nI (A 0 0 6))), some (.inl (nI (k + 1))), some (.inl (nI 0)), some (.inl (nI (wL A k))), some (.inl (nI f))] [] (mm_up (mm_up J 60 0 k (nI f)) 61 0 f (nI (c f + wL A k))) := by
        by_cases c3 : 0 < f
        · obtain ⟨f', rfl⟩ : ∃ f', f = f' + 1 := ⟨f - 1, by omega⟩
          have cf' := j2 f' (by omega)
          have cb' := hcb f' (by omega)
          have c4 : c f' ≠ 0 := fun z => c2 ⟨by omega, z⟩
          simp (disch := omega) only [e_M_carries_8, e_M_carries_9, e_M_carries_10, e_M_carries_12, e_M_carries_13, e_M_carries_16, e_M_carries_7 (x6 := nI (f' + 1)), lit, nad, nml, bd_s, ct_s, ct_n, a11, a01, aB2, bitA, nlt, nle, neq, dlT, dlF, deT, deF, dqT, dqF, nN, inb, nsb, ndv, nrm, if_true, if_false, ite_true, ite_false, true_and, and_true, and_self, and_false, false_and, or_true, true_or, or_false, false_or, or_self, ↓reduceIte, eq_self, Nat.reduceAdd, Nat.reduceMul, Nat.reduceSub, Nat.reduceDiv, Nat.reduceMod, Nat.zero_add, Nat.mul_zero, not_true_eq_false, not_false_eq_true, up_T, up_F, wr_T, wr_F, ngE, ngE', ngL, ngL', ngQ, ngQ', cf, cf', Nat.add_sub_cancel, up_F]
        · simp (disch := omega) only [e_M_carries_8, e_M_carries_9, e_M_carries_12, e_M_carries_13, e_M_carries_16, e_M_carries_7 (x6 := nI f), lit, nad, nml, bd_s, ct_s, ct_n, a11, a01, aB2, bitA, nlt, nle, neq, dlT, dlF, deT, deF, dqT, dqF, nN, inb, nsb, ndv, nrm, if_true, if_false, ite_true, ite_false, true_and, and_true, and_self, and_false, false_and, or_true, true_or, or_false, false_or, or_self, ↓reduceIte, eq_self, Nat.reduceAdd, Nat.reduceMul, Nat.reduceSub, Nat.reduceDiv, Nat.reduceMod, Nat.zero_add, Nat.mul_zero, not_true_eq_false, not_false_eq_true, up_T, up_F, wr_T, wr_F, ngE, ngE', ngL, ngL', ngQ, ngQ', cf, up_F]
      have e3 : eqo [60, 61] J (mm_up (mm_up J 60 0 k (nI f)) 61 0 f (nI (c f + wL A k))) := eqo_up (eqo_up (eqo_rf _ _) (by decide)) (by decide)
      obtain ⟨J2, p2, p3, p4, p5⟩ := ih (k + 1) (uN c f (c f + wL A k)) (some (.inl (nI (wL A k)))) (some (.inl (nI f))) (mm_up (mm_up J 60 0 k (nI f)) 61 0 f (nI (c f + wL A k))) (by omega) (eqo_tr (eqo_tr e j1) e3) (fun g hg => by
          by_cases z : g = f
          · rw [z, uN_s]; omega
          · rw [uN_n z]; exact hcb g hg) (fun g hg => by
          by_cases z : g = f
          · rw [z, up_s, uN_s]
          · rw [up_F (by omega), up_F (by omega), uN_n z]; exact j2 g hg) (fun g hg => by
          by_cases z : g = f
          · rw [z, uN_s]; omega
          · rw [uN_n z]
            by_cases z2 : g + 1 = f
            · intro z3
              exact absurd ⟨by omega, by rw [show f - 1 = g by omega]; exact z3⟩ c2
            · rw [uN_n z2]; exact hP g hg)
      have j60 : ∀ i, i < k → J2 60 0 i = I 60 0 i := fun i hi => by rw [p3 i (by omega), up_F (by omega), up_F (by omega)]; exact j3 i hi
      have jk : J2 60 0 k = nI f := by rw [p3 k (by omega), up_F (by omega), up_s]
      have hcand : cand (wL A) L n k c f = cp (wL A) L n (k + 1) (uN c f (c f + wL A k)) := by
        unfold cand
        rw [decide_eq_true (by omega), Bool.true_and]
      cases c3 : cp (wL A) L n (k + 1) (uN c f (c f + wL A k)) with
      | true =>
        left
        obtain ⟨⟨a, b, q1⟩, q2⟩ := p4 c3
        have hA : cp (wL A) L (n + 1) k c = true := by rw [cp_s]; exact an_iff.mpr ⟨f, hf, by rw [hcand, c3]⟩
        have hfc := fcn_of hf (by rw [hcand, c3]) j4
        refine ⟨J2, eqo_tr j1 (eqo_tr e3 p2), j60, fun _ => ⟨⟨a, b, g1.trans q1⟩, fun i h1 h3 => ?_⟩, fun q => absurd (hA.symm.trans q) (by decide)⟩
        rw [asg, hfc]
        show J2 60 0 i = nI (if i = k then f else asg (wL A) L n (k + 1) (uN c f (c f + wL A k)) i)
        by_cases z : i = k
        · rw [if_pos z, z, jk]
        · rw [if_neg z]; exact q2 i (by omega) h3
      | false =>
        right
        obtain ⟨⟨x4, x5, x6, q1⟩, q2⟩ := p5 c3
        have f6 := q2 f hf
        rw [uN_s] at f6
        have e4 : eqo [60, 61] I J2 := eqo_tr j1 (eqo_tr e3 p2)
        have e5 : eqo [60, 61] I (mm_up J2 61 0 f (nI (c f))) := eqo_up e4 (by decide)
        have w2 := hwt J2 (eqo_tr e e4)
        refine ⟨(f + 1, mm_up J2 61 0 f (nI (c f))), ⟨e5, fun g hg => ?_, fun i hi => by dsimp only; rw [up_F (by omega)]; exact j60 i hi, skip (by rw [hcand, c3])⟩, ?_⟩
        · dsimp only
          by_cases z : g = f
          · rw [z, up_s]
          · rw [up_F (by omega), q2 g hg, uN_n z]
        · dsimp only
          rw [g1, q1, x_M_car14 _ _ _ _ _ _ _ _ (by omega)]
          have st : Rn d q_M_carries 15 [some (.inr (12, 0)), some (.inl (nI L)), some (.inl (nI (A 0 0 6))), some (.inl (nI k)), some (.inl x4), some (.inl x5), some (.inl x6)] [] J2 = Rn d q_M_carries 4 [some (.inr (12, 0)), some (.inl (nI L)), some (.inl (nI (A 0 0 6))), some (.inl (nI k)), some (.inl (nI (f + 1))), some (.inl x5), some (.inl x6)] [] (mm_up J2 61 0 f (nI (c f))) := by
            simp (disch := omega) only [e_M_carries_15, e_M_carries_16, lit, nad, nml, bd_s, ct_s, ct_n, a11, a01, aB2, bitA, nlt, nle, neq, dlT, dlF, deT, deF, dqT, dqF, nN, inb, nsb, ndv, nrm, if_true, if_false, ite_true, ite_false, true_and, and_true, and_self, and_false, false_and, or_true, true_or, or_false, false_or, or_self, ↓reduceIte, eq_self, Nat.reduceAdd, Nat.reduceMul, Nat.reduceSub, Nat.reduceDiv, Nat.reduceMod, Nat.zero_add, Nat.mul_zero, not_true_eq_false, not_false_eq_true, up_T, up_F, wr_T, wr_F, ngE, ngE', ngL, ngL', ngQ, ngQ', jk, w2, f6, up_F, Nat.add_sub_cancel]
          rw [st, k0 (f + 1) _ _ _ (eqo_tr e e5)]
    · rintro ⟨y, J⟩ ⟨j1, j2, j3, j4⟩
      dsimp only at j1 j2 j3 ⊢
      have hA : cp (wL A) L (n + 1) k c = false := by
        rw [cp_s]
        cases q : an (cand (wL A) L n k c) L with
        | false => rfl
        | true =>
          obtain ⟨i, h1, h3⟩ := an_iff.mp q
          rw [j4 i h1] at h3
          cases h3
      refine ⟨J, j1, j3, fun q => absurd (hA.symm.trans q) (by decide), fun _ => ⟨⟨nI y, nI (wL A k), nI L, ?_⟩, j2⟩⟩
      simp (disch := omega) only [e_M_carries_7, e_M_carries_12, lit, nad, nml, bd_s, ct_s, ct_n, a11, a01, aB2, bitA, nlt, nle, neq, dlT, dlF, deT, deF, dqT, dqF, nN, inb, nsb, ndv, nrm, if_true, if_false, ite_true, ite_false, true_and, and_true, and_self, and_false, false_and, or_true, true_or, or_false, false_or, or_self, ↓reduceIte, eq_self, Nat.reduceAdd, Nat.reduceMul, Nat.reduceSub, Nat.reduceDiv, Nat.reduceMod, Nat.zero_add, Nat.mul_zero, not_true_eq_false, not_false_eq_true, up_T, up_F, wr_T, wr_F, ngE, ngE', ngL, ngL', ngQ, ngQ']
theorem s_M_carries (d L : Nat) (A : mm_A) (I : mm_I) (hR : RepR 0 A I) (g : Good A) (hL : L ≤ 10) : ∃ I', Sn (d + 1) q_M_carries [.inr (12, 0), .inl (nI L)] I = some (some (.inl (nI (b2 (cp (wL A) L (A 0 0 6) 0 (fun _ => 0))))), (sh0, I')) ∧ eqo [60, 61] I I' ∧ (cp (wL A) L (A 0 0 6) 0 (fun _ => 0) = true → ∀ i, i < A 0 0 6 → I' 60 0 i = nI (asg (wL A) L (A 0 0 6) 0 (fun _ => 0) i)) := by
  have hm10 : A 0 0 6 ≤ 10 := g.2.1 4 (by decide)
  have hm : I 47 0 6 = nI (A 0 0 6) := hR.1 6 (by decide)
  have k1 := lpG (n := L) (fun i J => Rn d q_M_carries 1 [some (.inr (12, 0)), some (.inl (nI L)), some (.inl (nI (A 0 0 6))), some (.inl (nI i)), none, none, none] [] J) (fun i => wr I 61 0 0 i (fun _ => nI 0)) (fun i hi => by
    have := wr_s I 61 0 0 i (fun _ => nI 0)
    rw [Nat.zero_add] at this
    simp (disch := omega) only [e_M_carries_2, e_M_carries_1 (x3 := nI i), lit, nad, nml, bd_s, ct_s, ct_n, a11, a01, aB2, bitA, nlt, nle, neq, dlT, dlF, deT, deF, dqT, dqF, nN, inb, nsb, ndv, nrm, if_true, if_false, ite_true, ite_false, true_and, and_true, and_self, and_false, false_and, or_true, true_or, or_false, false_or, or_self, ↓reduceIte, eq_self, Nat.reduceAdd, Nat.reduceMul, Nat.reduceSub, Nat.reduceDiv, Nat.reduceMod, Nat.zero_add, Nat.mul_zero, not_true_eq_false, not_false_eq_true, up_T, up_F, wr_T, wr_F, ngE, ngE', ngL, ngL', ngQ, ngQ', ← this]) 0 (Nat.zero_le _)
  rw [show wr I 61 0 0 0 (fun _ => nI 0) = I from wr_0 _ _ _ _ _] at k1
  have e2 : eqo [60, 61] I (wr I 61 0 0 L (fun _ => nI 0)) := eqo_wr (eqo_rf _ _) (by decide)
  obtain ⟨J, p2, p3, p4, p5⟩ := s_carT d L A I hR g hL (A 0 0 6) 0 (fun _ => 0) none none (wr I 61 0 0 L (fun _ => nI 0)) (Nat.zero_add _) e2 (fun _ _ => Nat.zero_le _) (fun f hf => by rw [wr_T (by omega)]) (fun _ _ _ => rfl)
  refine ⟨J, ?_, eqo_tr e2 p2, fun q i hi => (p4 q).2 i (Nat.zero_le _) hi⟩
  have k2 : Sn (d + 1) q_M_carries [.inr (12, 0), .inl (nI L)] I = Rn d q_M_carries 4 [some (.inr (12, 0)), some (.inl (nI L)), some (.inl (nI (A 0 0 6))), some (.inl (nI 0)), some (.inl (nI 0)), none, none] [] (wr I 61 0 0 L (fun _ => nI 0)) := by
    rw [n_M_carries, e_M_carries_0, if_pos (by decide)]
    refine (show _ = Rn d q_M_carries 1 [some (.inr (12, 0)), some (.inl (nI L)), some (.inl (nI (A 0 0 6))), some (.inl (nI 0)), none, none, none] [] I from ?_).trans (k1.trans ?_)
    · rw [show (6 : Int32).toInt.toNat = 6 from rfl, hm]; rfl
    · simp (disch := omega) only [e_M_carries_1, e_M_carries_3, lit, nad, nml, bd_s, ct_s, ct_n, a11, a01, aB2, bitA, nlt, nle, neq, dlT, dlF, deT, deF, dqT, dqF, nN, inb, nsb, ndv, nrm, if_true, if_false, ite_true, ite_false, true_and, and_true, and_self, and_false, false_and, or_true, true_or, or_false, false_or, or_self, ↓reduceIte, eq_self, Nat.reduceAdd, Nat.reduceMul, Nat.reduceSub, Nat.reduceDiv, Nat.reduceMod, Nat.zero_add, Nat.mul_zero, not_true_eq_false, not_false_eq_true, up_T, up_F, wr_T, wr_F, ngE, ngE', ngL, ngL', ngQ, ngQ']
  rw [k2]
  cases c : cp (wL A) L (A 0 0 6) 0 (fun _ => 0) with
  | true =>
    obtain ⟨⟨a, b, q1⟩, -⟩ := p4 c
    rw [q1]
    simp (disch := omega) only [e_M_carries_17, e_M_carries_18, e_M_carries_20, lit, nad, nml, bd_s, ct_s, ct_n, a11, a01, aB2, bitA, nlt, nle, neq, dlT, dlF, deT, deF, dqT, dqF, nN, inb, nsb, ndv, nrm, if_true, if_false, ite_true, ite_false, true_and, and_true, and_self, and_false, false_and, or_true, true_or, or_false, false_or, or_self, ↓reduceIte, eq_self, Nat.reduceAdd, Nat.reduceMul, Nat.reduceSub, Nat.reduceDiv, Nat.reduceMod, Nat.zero_add, Nat.mul_zero, not_true_eq_false, not_false_eq_true, up_T, up_F, wr_T, wr_F, ngE, ngE', ngL, ngL', ngQ, ngQ', show b2 true = 1 from rfl]
  | false =>
    obtain ⟨⟨x4, x5, x6, q1⟩, -⟩ := p5 c
    rw [q1, x_M_car14z, e_M_carries_16, e_M_carries_4, if_pos (by decide), e_M_carries_17, if_neg (by rw [ngE' (by omega) (by decide) (by decide)]; exact id), e_M_carries_19, e_M_carries_20]
    rfl
