/-! Flights of the class. -/
def wL (A : mm_A) (k : Nat) : Nat := if k < A 0 0 6 then A 8 k 0 else 0
theorem wL_b {A : mm_A} (g : Good A) (k : Nat) : wL A k ≤ 100 := by
  unfold wL
  split
  · rename_i h; have := ldG g h; omega
  · omega
theorem wL_e {A : mm_A} {k : Nat} (h : k < A 0 0 6) : wL A k = A 8 k 0 := if_pos h
def FC (I : mm_I) (c : Nat → Nat) : Prop := ∀ f, f < 10 → I 27 0 f = nI (c f)
theorem s_isLike (d f : Nat) (c : Nat → Nat) (I : mm_I) (hf : f < 10) (hc : ∀ g, g < 10 → c g ≤ 100) (h : FC I c) : Sn (d + 1) q_Flights_isLikeOneAhead [.inr (2, 0), .inl (nI f)] I = some (some (.inl (nI (b2 (an (fun g => c g == c f) f)))), (sh0, I)) := by
  rw [n_Flights_isLikeOneAhead, e_Flights_isLikeOneAhead_0]
  refine lpX (n := f) (σ := Unit) (fun i _ => Rn d q_Flights_isLikeOneAhead 1 [some (.inr (2, 0)), some (.inl (nI f)), some (.inl (nI i))] [] I) (fun i _ => an (fun g => c g == c f) i = false) (fun r => r = _) ?_ ?_ 0 () (Nat.zero_le _) rfl
  · intro i _ hi hV
    have e1 := h i (by omega)
    have e2 := h f hf
    have b1 := hc i (by omega)
    have b2' := hc f hf
    by_cases w : c i = c f
    · left
      have hA : an (fun g => c g == c f) f = true := an_iff.mpr ⟨i, hi, by simp [w]⟩
      rw [hA]
      simp (disch := omega) only [e_Flights_isLikeOneAhead_2, e_Flights_isLikeOneAhead_3, e_Flights_isLikeOneAhead_1 (x2 := nI i), lit, nad, nml, bd_s, ct_s, ct_n, a11, a01, aB2, bitA, nlt, nle, neq, dlT, dlF, deT, deF, dqT, dqF, nN, inb, nsb, ndv, nrm, if_true, if_false, ite_true, ite_false, true_and, and_true, and_self, and_false, false_and, or_true, true_or, or_false, false_or, or_self, ↓reduceIte, eq_self, Nat.reduceAdd, Nat.reduceMul, Nat.reduceSub, Nat.reduceDiv, Nat.reduceMod, Nat.zero_add, Nat.mul_zero, not_true_eq_false, not_false_eq_true, up_T, up_F, wr_T, wr_F, ngE, ngE', ngL, ngL', ngQ, ngQ', e1, e2, show b2 true = 1 from rfl]
    · right
      refine ⟨(), by rw [an, hV]; simp [w], ?_⟩
      simp (disch := omega) only [e_Flights_isLikeOneAhead_2, e_Flights_isLikeOneAhead_4, e_Flights_isLikeOneAhead_1 (x2 := nI i), lit, nad, nml, bd_s, ct_s, ct_n, a11, a01, aB2, bitA, nlt, nle, neq, dlT, dlF, deT, deF, dqT, dqF, nN, inb, nsb, ndv, nrm, if_true, if_false, ite_true, ite_false, true_and, and_true, and_self, and_false, false_and, or_true, true_or, or_false, false_or, or_self, ↓reduceIte, eq_self, Nat.reduceAdd, Nat.reduceMul, Nat.reduceSub, Nat.reduceDiv, Nat.reduceMod, Nat.zero_add, Nat.mul_zero, not_true_eq_false, not_false_eq_true, up_T, up_F, wr_T, wr_F, ngE, ngE', ngL, ngL', ngQ, ngQ', e1, e2]
  · intro _ hV
    rw [hV]
    simp (disch := omega) only [e_Flights_isLikeOneAhead_1, e_Flights_isLikeOneAhead_5, lit, nad, nml, bd_s, ct_s, ct_n, a11, a01, aB2, bitA, nlt, nle, neq, dlT, dlF, deT, deF, dqT, dqF, nN, inb, nsb, ndv, nrm, if_true, if_false, ite_true, ite_false, true_and, and_true, and_self, and_false, false_and, or_true, true_or, or_false, false_or, or_self, ↓reduceIte, eq_self, Nat.reduceAdd, Nat.reduceMul, Nat.reduceSub, Nat.reduceDiv, Nat.reduceMod, Nat.zero_add, Nat.mul_zero, not_true_eq_false, not_false_eq_true, up_T, up_F, wr_T, wr_F, ngE, ngE', ngL, ngL', ngQ, ngQ', show b2 false = 0 from rfl]
theorem FC_up {I : mm_I} {c : Nat → Nat} {f y : Nat} (h : FC I c) : FC (mm_up I 27 0 f (nI y)) (uN c f y) := fun g hg => by
  by_cases e : g = f
  · rw [e, up_s, uN_s]
  · rw [up_F (by omega), uN_n e]; exact h g hg
theorem uN_back {c : Nat → Nat} {f y : Nat} (h : y = c f) (x : Nat) : uN (uN c f x) f y = c := by
  rw [uN_uN]
  funext g
  unfold uN
  split
  · rename_i e; rw [e, h]
  · rfl
theorem s_place (d L : Nat) (A : mm_A) (I0 : mm_I) (hC : RepC 0 A I0) (F : Fix I0) (g : Good A) (hL : L ≤ 10) : ∀ n k (c : Nat → Nat) (I : mm_I), k + n = A 0 0 6 → eqo [2, 26, 27] I0 I → I 2 0 2 = nI L → (∀ f, f < 10 → c f ≤ 100) → FC I c → ∃ I', Sn (d + 3 + n) q_Flights_place [.inr (2, 0), .inr (7, 4), .inl (nI k)] I = some (some (.inl (nI (b2 (cp (wL A) L n k c)))), (sh0, I')) ∧ eqo [26, 27] I I' ∧ (∀ i, i < k → I' 26 0 i = I 26 0 i) ∧ (cp (wL A) L n k c = true → ∀ i, k ≤ i → i < A 0 0 6 → I' 26 0 i = nI (asg (wL A) L n k c i)) ∧ (cp (wL A) L n k c = false → FC I' c) := by
  have hm10 : A 0 0 6 ≤ 10 := g.2.1 4 (by decide)
  intro n
  induction n with
  | zero =>
    intro k c I hk e h2 hcb hF
    have hm : I 7 4 3 = nI (A 0 0 6) := by rw [e 7 (by decide)]; exact c0_mn hC (t := 4) (by decide)
    refine ⟨I, ?_, eqo_rf _ _, fun _ _ => rfl, fun _ i h1 h3 => by omega, fun q => by cases q⟩
    simp (disch := omega) only [n_Flights_place, e_Flights_place_0, e_Flights_place_2, lit, nad, nml, bd_s, ct_s, ct_n, a11, a01, aB2, bitA, nlt, nle, neq, dlT, dlF, deT, deF, dqT, dqF, nN, inb, nsb, ndv, nrm, if_true, if_false, ite_true, ite_false, true_and, and_true, and_self, and_false, false_and, or_true, true_or, or_false, false_or, or_self, ↓reduceIte, eq_self, Nat.reduceAdd, Nat.reduceMul, Nat.reduceSub, Nat.reduceDiv, Nat.reduceMod, Nat.zero_add, Nat.mul_zero, not_true_eq_false, not_false_eq_true, up_T, up_F, wr_T, wr_F, ngE, ngE', ngL, ngL', ngQ, ngQ', hm, cp, show b2 true = 1 from rfl]
  | succ n ih =>
    intro k c I hk e h2 hcb hF
    have hkm : k < A 0 0 6 := by omega
    have hw := wL_b g k
    have hCI : RepC 0 A I := RepC_fr hC g (fun k i q => by rw [e k]; unfold hc at q; simp; omega)
    have FI : Fix I := Fix_e F e (by decide)
    have hm : I 7 4 3 = nI (A 0 0 6) := c0_mn hCI (t := 4) (by decide)
    have at0 := s_at0 (d + 1 + n) 4 k 0 A I hCI FI g (by decide) hkm (by decide)
    rw [← wL_e hkm] at at0
    have k0 : Sn (d + 3 + (n + 1)) q_Flights_place [.inr (2, 0), .inr (7, 4), .inl (nI k)] I = Rn (d + 3 + n) q_Flights_place 5 [some (.inr (2, 0)), some (.inr (7, 4)), some (.inl (nI k)), some (.inl (nI (wL A k))), some (.inl (nI 0))] [] I := by
      have z : d + 3 + (n + 1) = (d + 3 + n) + 1 := by omega
      have z2 : d + 1 + n + 2 = d + 3 + n := by omega
      rw [z2] at at0
      rw [z]
      simp (disch := omega) only [n_Flights_place, e_Flights_place_0, e_Flights_place_1, e_Flights_place_3, e_Flights_place_4, lit, nad, nml, bd_s, ct_s, ct_n, a11, a01, aB2, bitA, nlt, nle, neq, dlT, dlF, deT, deF, dqT, dqF, nN, inb, nsb, ndv, nrm, if_true, if_false, ite_true, ite_false, true_and, and_true, and_self, and_false, false_and, or_true, true_or, or_false, false_or, or_self, ↓reduceIte, eq_self, Nat.reduceAdd, Nat.reduceMul, Nat.reduceSub, Nat.reduceDiv, Nat.reduceMod, Nat.zero_add, Nat.mul_zero, not_true_eq_false, not_false_eq_true, up_T, up_F, wr_T, wr_F, ngE, ngE', ngL, ngL', ngQ, ngQ', hm, at0]
    rw [k0]
    refine lpX (n := L) (σ := mm_I) (fun f J => Rn (d + 3 + n) q_Flights_place 5 [some (.inr (2, 0)), some (.inr (7, 4)), some (.inl (nI k)), some (.inl (nI (wL A k))), some (.inl (nI f))] [] J) (fun f J => eqo [26, 27] I J ∧ FC J c ∧ (∀ i, i < k → J 26 0 i = I 26 0 i) ∧ ∀ g, g < f → cand (wL A) L n k c g = false) (fun q => ∃ I', q = some (some (.inl (nI (b2 (cp (wL A) L (n + 1) k c)))), (sh0, I')) ∧ eqo [26, 27] I I' ∧ (∀ i, i < k → I' 26 0 i = I 26 0 i) ∧ (cp (wL A) L (n + 1) k c = true → ∀ i, k ≤ i → i < A 0 0 6 → I' 26 0 i = nI (asg (wL A) L (n + 1) k c i)) ∧ (cp (wL A) L (n + 1) k c = false → FC I' c)) ?_ ?_ 0 I (Nat.zero_le _) ⟨eqo_rf _ _, hF, fun _ _ => rfl, fun g hg => by omega⟩
    · rintro f J hf ⟨j1, j2, j3, j4⟩
      have l2 : J 2 0 2 = nI L := by rw [j1 2 (by decide)]; exact h2
      have cf := j2 f (by omega)
      have cb := hcb f (by omega)
      have skip : cand (wL A) L n k c f = false → ∀ g, g < f + 1 → cand (wL A) L n k c g = false := fun q g hg => by
        by_cases z : g = f
        · rw [z]; exact q
        · exact j4 g (by omega)
      by_cases c1 : 100 < c f + wL A k
      · right
        refine ⟨J, ⟨j1, j2, j3, skip ?_⟩, ?_⟩
        · unfold cand
          rw [decide_eq_false (by omega), Bool.false_and]
        · simp (disch := omega) only [e_Flights_place_6, e_Flights_place_7, e_Flights_place_15, e_Flights_place_5 (x4 := nI f), lit, nad, nml, bd_s, ct_s, ct_n, a11, a01, aB2, bitA, nlt, nle, neq, dlT, dlF, deT, deF, dqT, dqF, nN, inb, nsb, ndv, nrm, if_true, if_false, ite_true, ite_false, true_and, and_true, and_self, and_false, false_and, or_true, true_or, or_false, false_or, or_self, ↓reduceIte, eq_self, Nat.reduceAdd, Nat.reduceMul, Nat.reduceSub, Nat.reduceDiv, Nat.reduceMod, Nat.zero_add, Nat.mul_zero, not_true_eq_false, not_false_eq_true, up_T, up_F, wr_T, wr_F, ngE, ngE', ngL, ngL', ngQ, ngQ', l2, cf]
      have lk := s_isLike (d + 2 + n) f c J (by omega) hcb j2
      have z3 : d + 2 + n + 1 = d + 3 + n := by omega
      rw [z3] at lk
      cases c2 : an (fun g => c g == c f) f with
      | true =>
        right
        rw [c2] at lk
        refine ⟨J, ⟨j1, j2, j3, skip ?_⟩, ?_⟩
        · obtain ⟨g', g1, g2⟩ := an_iff.mp c2
          exact (cand_like (g := g') hf (by omega) (by simpa using g2)).trans (j4 g' g1)
        · simp (disch := omega) only [e_Flights_place_6, e_Flights_place_7, e_Flights_place_8, e_Flights_place_9, e_Flights_place_10, e_Flights_place_15, e_Flights_place_5 (x4 := nI f), lit, nad, nml, bd_s, ct_s, ct_n, a11, a01, aB2, bitA, nlt, nle, neq, dlT, dlF, deT, deF, dqT, dqF, nN, inb, nsb, ndv, nrm, if_true, if_false, ite_true, ite_false, true_and, and_true, and_self, and_false, false_and, or_true, true_or, or_false, false_or, or_self, ↓reduceIte, eq_self, Nat.reduceAdd, Nat.reduceMul, Nat.reduceSub, Nat.reduceDiv, Nat.reduceMod, Nat.zero_add, Nat.mul_zero, not_true_eq_false, not_false_eq_true, up_T, up_F, wr_T, wr_F, ngE, ngE', ngL, ngL', ngQ, ngQ', l2, cf, lk, show b2 true = 1 from rfl]
      | false =>
        rw [c2] at lk
        have e3 : eqo [26, 27] J (mm_up (mm_up J 27 0 f (nI (c f + wL A k))) 26 0 k (nI f)) := eqo_up (eqo_up (eqo_rf _ _) (by decide)) (by decide)
        obtain ⟨J2, p1, p2, p3, p4, p5⟩ := ih (k + 1) (uN c f (c f + wL A k)) (mm_up (mm_up J 27 0 f (nI (c f + wL A k))) 26 0 k (nI f)) (by omega) (eqo_tr (eqo_tr e (eqo_mono j1 (by decide))) (eqo_mono e3 (by decide))) (by rw [e3 2 (by decide)]; exact l2) (fun g hg => by
          by_cases z : g = f
          · rw [z, uN_s]; omega
          · rw [uN_n z]; exact hcb g hg) (fun g hg => by rw [up_F (by omega)]; exact FC_up j2 g hg)
        have j26 : ∀ i, i < k → J2 26 0 i = I 26 0 i := fun i hi => by rw [p3 i (by omega), up_F (by omega), up_F (by omega)]; exact j3 i hi
        have hcand : cand (wL A) L n k c f = cp (wL A) L n (k + 1) (uN c f (c f + wL A k)) := by
          unfold cand
          rw [decide_eq_true (by omega), Bool.true_and]
        cases c3 : cp (wL A) L n (k + 1) (uN c f (c f + wL A k)) with
        | true =>
          left
          rw [c3] at p1
          have hA : cp (wL A) L (n + 1) k c = true := by rw [cp_s]; exact an_iff.mpr ⟨f, hf, by rw [hcand, c3]⟩
          have hfc := fcn_of hf (by rw [hcand, c3]) j4
          refine ⟨J2, ?_, eqo_tr j1 (eqo_tr e3 p2), j26, fun _ i h1 h3 => ?_, fun q => by rw [hA] at q; cases q⟩
          · rw [hA]
            simp (disch := omega) only [e_Flights_place_6, e_Flights_place_7, e_Flights_place_8, e_Flights_place_9, e_Flights_place_11, e_Flights_place_12, e_Flights_place_13, e_Flights_place_5 (x4 := nI f), lit, nad, nml, bd_s, ct_s, ct_n, a11, a01, aB2, bitA, nlt, nle, neq, dlT, dlF, deT, deF, dqT, dqF, nN, inb, nsb, ndv, nrm, if_true, if_false, ite_true, ite_false, true_and, and_true, and_self, and_false, false_and, or_true, true_or, or_false, false_or, or_self, ↓reduceIte, eq_self, Nat.reduceAdd, Nat.reduceMul, Nat.reduceSub, Nat.reduceDiv, Nat.reduceMod, Nat.zero_add, Nat.mul_zero, not_true_eq_false, not_false_eq_true, up_T, up_F, wr_T, wr_F, ngE, ngE', ngL, ngL', ngQ, ngQ', l2, cf, lk, p1, show b2 false = 0 from rfl, show b2 true = 1 from rfl]
          · rw [asg, hfc]
            show J2 26 0 i = nI (if i = k then f else asg (wL A) L n (k + 1) (uN c f (c f + wL A k)) i)
            by_cases z : i = k
            · rw [if_pos z, z, p3 k (by omega), up_s]
            · rw [if_neg z]; exact p4 c3 i (by omega) h3
        | false =>
          right
          rw [c3] at p1
          have f5 := p5 c3
          have f6 := f5 f (by omega)
          rw [uN_s] at f6
          refine ⟨mm_up J2 27 0 f (nI (c f)), ⟨eqo_up (eqo_tr j1 (eqo_tr e3 p2)) (by decide), ?_, fun i hi => by rw [up_F (by omega)]; exact j26 i hi, skip (by rw [hcand, c3])⟩, ?_⟩
          · have := FC_up (f := f) (y := c f) f5
            rw [uN_back rfl] at this
            exact this
          · simp (disch := omega) only [e_Flights_place_6, e_Flights_place_7, e_Flights_place_8, e_Flights_place_9, e_Flights_place_11, e_Flights_place_12, e_Flights_place_14, e_Flights_place_15, e_Flights_place_5 (x4 := nI f), lit, nad, nml, bd_s, ct_s, ct_n, a11, a01, aB2, bitA, nlt, nle, neq, dlT, dlF, deT, deF, dqT, dqF, nN, inb, nsb, ndv, nrm, if_true, if_false, ite_true, ite_false, true_and, and_true, and_self, and_false, false_and, or_true, true_or, or_false, false_or, or_self, ↓reduceIte, eq_self, Nat.reduceAdd, Nat.reduceMul, Nat.reduceSub, Nat.reduceDiv, Nat.reduceMod, Nat.zero_add, Nat.mul_zero, not_true_eq_false, not_false_eq_true, up_T, up_F, wr_T, wr_F, ngE, ngE', ngL, ngL', ngQ, ngQ', l2, cf, lk, p1, f6, Nat.add_sub_cancel, show b2 false = 0 from rfl]
    · rintro J ⟨j1, j2, j3, j4⟩
      have l2 : J 2 0 2 = nI L := by rw [j1 2 (by decide)]; exact h2
      have hA : cp (wL A) L (n + 1) k c = false := by
        rw [cp_s]
        cases q : an (cand (wL A) L n k c) L with
        | false => rfl
        | true =>
          obtain ⟨i, h1, h3⟩ := an_iff.mp q
          rw [j4 i h1] at h3
          cases h3
      refine ⟨J, ?_, j1, j3, fun q => absurd (hA.symm.trans q) (by decide), fun _ => j2⟩
      rw [hA]
      simp (disch := omega) only [e_Flights_place_5, e_Flights_place_16, lit, nad, nml, bd_s, ct_s, ct_n, a11, a01, aB2, bitA, nlt, nle, neq, dlT, dlF, deT, deF, dqT, dqF, nN, inb, nsb, ndv, nrm, if_true, if_false, ite_true, ite_false, true_and, and_true, and_self, and_false, false_and, or_true, true_or, or_false, false_or, or_self, ↓reduceIte, eq_self, Nat.reduceAdd, Nat.reduceMul, Nat.reduceSub, Nat.reduceDiv, Nat.reduceMod, Nat.zero_add, Nat.mul_zero, not_true_eq_false, not_false_eq_true, up_T, up_F, wr_T, wr_F, ngE, ngE', ngL, ngL', ngQ, ngQ', l2, show b2 false = 0 from rfl]
