/-! Roster.findBest. -/
def ndA (A : mm_A) (j : Nat) : Nat := A 10 j 1
def gvA (A : mm_A) (w j : Nat) : Nat := 2 * (if A 0 0 9 ≤ ablA A w (A 10 j 0) then A 0 0 9 else ablA A w (A 10 j 0))
def rsA (A : mm_A) : BS := rf (A 0 0 8) (ndA A) (gvA A) 6 0 (fun _ => 0) (fun _ => 0) none
theorem gvA_b {A : mm_A} (g : Good A) (w j : Nat) : gvA A w j ≤ 20 := by
  have h9 := g.1.2.2.1
  unfold gvA
  split <;> omega
theorem hp_s (gv : Nat → Nat → Nat) (w j : Nat) : ∀ m, hpN gv w (m + 1) j = gv w j + hpN gv (w + 1) m j := by
  intro m
  induction m with
  | zero => show 0 + gv (w + 0) j = gv w j + 0; rw [Nat.add_zero]; omega
  | succ m im =>
    have e : hpN gv w (m + 1 + 1) j = hpN gv w (m + 1) j + gv (w + (m + 1)) j := rfl
    have e2 : hpN gv (w + 1) (m + 1) j = hpN gv (w + 1) m j + gv (w + 1 + m) j := rfl
    rw [e, im, e2, show w + (m + 1) = w + 1 + m by omega]; omega
theorem hp_b {gv : Nat → Nat → Nat} (hg : ∀ w j, gv w j ≤ 20) (w n j : Nat) : hpN gv w n j ≤ 20 * n := sm_le (fun i _ => hg _ _)
theorem dn5 : ∀ i, i < 6 → nI 5 - nI i = nI (5 - i) ∧ nI (5 - i) + -nI 1 = nI 5 - nI (i + 1) := fun i hi => by
  rcases (show i = 0 ∨ i = 1 ∨ i = 2 ∨ i = 3 ∨ i = 4 ∨ i = 5 by omega) with e | e | e | e | e | e <;> subst e <;> exact ⟨by decide, by decide⟩
def QA (A : mm_A) (j : Nat) (K : mm_I) : Prop := ∀ j', j' < j → K 33 0 j' = nI (ndA A j') ∧ K 34 0 j' = nI 0 ∧ (∀ w, w < 6 → K 31 0 (w * 4 + j') = nI (gvA A w j')) ∧ ∀ w, w ≤ 6 → K 32 0 (w * 4 + j') = nI (hpN (gvA A) w (6 - w) j')
def QB (A : mm_A) (j i : Nat) (K : mm_I) : Prop := K 33 0 j = nI (ndA A j) ∧ K 34 0 j = nI 0 ∧ (∀ w, w < 6 → 6 - i ≤ w → K 31 0 (w * 4 + j) = nI (gvA A w j)) ∧ ∀ w, w ≤ 6 → 6 - i ≤ w → K 32 0 (w * 4 + j) = nI (hpN (gvA A) w (6 - w) j)
theorem s_fbIn (d j : Nat) (v4 : Option mm_V) (A : mm_A) (I : mm_I) (hC : RepC 0 A I) (F : Fix I) (g : Good A) (hj : j < A 0 0 8) (hQ : QA A j I) (hB : QB A j 0 I) : ∃ I' v3 v4', Rn (d + 8) q_Roster_findBest 4 [some (.inr (6, 0)), some (.inr (3, 0)), some (.inl (nI j)), some (.inl (nI 5)), v4] [] I = Rn (d + 8) q_Roster_findBest 8 [some (.inr (6, 0)), some (.inr (3, 0)), some (.inl (nI j)), some (.inl v3), v4'] [] I' ∧ eqo [31, 32] I I' ∧ QA A (j + 1) I' := by
  have hJ : A 0 0 8 ≤ 4 := g.2.1 6 (by decide)
  have h9 := g.1.2.2.1
  refine lpX (n := 6) (σ := Option mm_V × mm_I) (fun i s => Rn (d + 8) q_Roster_findBest 4 [some (.inr (6, 0)), some (.inr (3, 0)), some (.inl (nI j)), some (.inl (nI 5 - nI i)), s.1] [] s.2) (fun i s => eqo [31, 32] I s.2 ∧ QA A j s.2 ∧ QB A j i s.2) (fun q => ∃ I' v3 v4', q = Rn (d + 8) q_Roster_findBest 8 [some (.inr (6, 0)), some (.inr (3, 0)), some (.inl (nI j)), some (.inl v3), v4'] [] I' ∧ eqo [31, 32] I I' ∧ QA A (j + 1) I') ?_ ?_ 0 (v4, I) (Nat.zero_le _) ⟨eqo_rf _ _, hQ, hB⟩
  · rintro i ⟨v, K⟩ hi ⟨k1, k2, k3, k4, k5, k6⟩
    dsimp only at k1 k2 k3 k4 k5 k6 ⊢
    right
    obtain ⟨z1, z2⟩ := dn5 i hi
    have hC1 := RepC_o hC g k1 (by decide)
    have F1 := Fix_e F k1 (by decide)
    have a0 := s_at0 (d + 6) 6 j 0 A K hC1 F1 g (by decide) hj (by decide)
    have ab := s_ableOn (d + 5) (5 - i) (A 10 j 0) A K hC1 F1 g
    have abl := abl_le g (5 - i) (A 10 j 0)
    have hbd : K 3 0 13 = nI (A 0 0 9) := hC1.1.2.2.1
    have l32 := k6 (5 - i + 1) (by omega) (by omega)
    rw [show (5 - i + 1) * 4 + j = (5 - i) * 4 + j + 4 by omega] at l32
    have gb := gvA_b g (5 - i) j
    have hb := hp_b (gvA_b g) (5 - i + 1) (6 - (5 - i + 1)) j
    have e : hpN (gvA A) (5 - i) (6 - (5 - i)) j = gvA A (5 - i) j + hpN (gvA A) (5 - i + 1) (6 - (5 - i + 1)) j := by
      rw [show 6 - (5 - i) = 6 - (5 - i + 1) + 1 by omega]
      exact hp_s _ _ _ _
    refine ⟨(some (.inl (nI ((5 - i) * 4 + j))), mm_up (mm_up K 31 0 ((5 - i) * 4 + j) (nI (gvA A (5 - i) j))) 32 0 ((5 - i) * 4 + j) (nI (hpN (gvA A) (5 - i) (6 - (5 - i)) j))), ⟨eqo_up (eqo_up k1 (by decide)) (by decide), ?_, ?_⟩, ?_⟩
    · intro j' hj'
      obtain ⟨m1, m2, m3, m4⟩ := k2 j' hj'
      dsimp only
      refine ⟨by rw [up_F (by omega), up_F (by omega)]; exact m1, by rw [up_F (by omega), up_F (by omega)]; exact m2, fun w hw => by rw [up_F (by omega), up_F (by omega)]; exact m3 w hw, fun w hw => by rw [up_F (by omega), up_F (by omega)]; exact m4 w hw⟩
    · dsimp only
      refine ⟨by rw [up_F (by omega), up_F (by omega)]; exact k3, by rw [up_F (by omega), up_F (by omega)]; exact k4, fun w hw q => ?_, fun w hw q => ?_⟩
      · by_cases z : w = 5 - i
        · rw [z, up_F (by omega), up_s]
        · rw [up_F (by omega), up_F (by omega)]; exact k5 w hw (by omega)
      · by_cases z : w = 5 - i
        · rw [z, up_s]
        · rw [up_F (by omega), up_F (by omega)]; exact k6 w hw (by omega)
    · dsimp only
      rw [z1, ← z2, e]
      by_cases c : A 0 0 9 ≤ ablA A (5 - i) (A 10 j 0)
      · have ge : gvA A (5 - i) j = 2 * A 0 0 9 := by unfold gvA; rw [if_pos c]
        rw [ge] at gb ⊢
        simp (disch := omega) only [e_Roster_findBest_5, e_Roster_findBest_6, e_Roster_findBest_7, e_Roster_findBest_4 (x3 := nI (5 - i)), lit, nad, nml, bd_s, ct_s, ct_n, a11, a01, aB2, bitA, nlt, nle, neq, dlT, dlF, deT, deF, dqT, dqF, nN, inb, nsb, ndv, nrm, if_true, if_false, ite_true, ite_false, true_and, and_true, and_self, and_false, false_and, or_true, true_or, or_false, false_or, or_self, ↓reduceIte, eq_self, Nat.reduceAdd, Nat.reduceMul, Nat.reduceSub, Nat.reduceDiv, Nat.reduceMod, Nat.zero_add, Nat.mul_zero, not_true_eq_false, not_false_eq_true, up_T, up_F, wr_T, wr_F, ngE, ngE', ngL, ngL', ngQ, ngQ', a0, ab, hbd, l32, up_T, up_F]
      · have ge : gvA A (5 - i) j = 2 * ablA A (5 - i) (A 10 j 0) := by unfold gvA; rw [if_neg c]
        rw [ge] at gb ⊢
        simp (disch := omega) only [e_Roster_findBest_5, e_Roster_findBest_6, e_Roster_findBest_7, e_Roster_findBest_4 (x3 := nI (5 - i)), lit, nad, nml, bd_s, ct_s, ct_n, a11, a01, aB2, bitA, nlt, nle, neq, dlT, dlF, deT, deF, dqT, dqF, nN, inb, nsb, ndv, nrm, if_true, if_false, ite_true, ite_false, true_and, and_true, and_self, and_false, false_and, or_true, true_or, or_false, false_or, or_self, ↓reduceIte, eq_self, Nat.reduceAdd, Nat.reduceMul, Nat.reduceSub, Nat.reduceDiv, Nat.reduceMod, Nat.zero_add, Nat.mul_zero, not_true_eq_false, not_false_eq_true, up_T, up_F, wr_T, wr_F, ngE, ngE', ngL, ngL', ngQ, ngQ', a0, ab, hbd, l32, up_T, up_F]
  · rintro ⟨v, K⟩ ⟨k1, k2, k3, k4, k5, k6⟩
    dsimp only at k1 k2 k3 k4 k5 k6 ⊢
    refine ⟨K, -nI 1, v, ?_, k1, fun j' hj' => ?_⟩
    · rw [show nI 5 - nI 6 = -nI 1 by decide, e_Roster_findBest_4, if_pos (by decide)]
    · by_cases z : j' = j
      · rw [z]
        exact ⟨k3, k4, fun w hw => k5 w hw (by omega), fun w hw => k6 w hw (by omega)⟩
      · exact k2 j' (by omega)
theorem s_findBest (d : Nat) (A : mm_A) (I : mm_I) (hC : RepC 0 A I) (F : Fix I) (g : Good A) : ∃ I', Sn (d + 9) q_Roster_findBest [.inr (6, 0), .inr (3, 0)] I = some (none, (sh0, I')) ∧ eqo [6, 31, 32, 33, 34, 35, 36] I I' ∧ BMc (rsA A) I' := by
  have hJ : A 0 0 8 ≤ 4 := g.2.1 6 (by decide)
  have hm : I 7 6 3 = nI (A 0 0 8) := c0_mn hC (t := 6) (by decide)
  have k0 : Sn (d + 9) q_Roster_findBest [.inr (6, 0), .inr (3, 0)] I = Rn (d + 8) q_Roster_findBest 1 [some (.inr (6, 0)), some (.inr (3, 0)), some (.inl (nI 0)), none, none] [] (mm_up I 6 0 6 (nI (A 0 0 8))) := by
    rw [n_Roster_findBest, e_Roster_findBest_0, show 7 * 0 + 6 = 6 from rfl, hm]
    by_cases z : A 0 0 8 = 4
    · rw [z]; rfl
    · rw [if_neg (by rw [show (4 : Int32) = nI 4 from rfl, nle (by omega) (by omega)]; omega)]; rfl
  rw [k0]
  refine lpX (n := A 0 0 8) (σ := Option mm_V × Option mm_V × mm_I) (fun j s => Rn (d + 8) q_Roster_findBest 1 [some (.inr (6, 0)), some (.inr (3, 0)), some (.inl (nI j)), s.1, s.2.1] [] s.2.2) (fun j s => eqo [6, 31, 32, 33, 34] I s.2.2 ∧ s.2.2 6 0 6 = nI (A 0 0 8) ∧ QA A j s.2.2) (fun q => ∃ I', q = some (none, (sh0, I')) ∧ eqo [6, 31, 32, 33, 34, 35, 36] I I' ∧ BMc (rsA A) I') ?_ ?_ 0 (none, none, mm_up I 6 0 6 (nI (A 0 0 8))) (Nat.zero_le _) ⟨eqo_up (eqo_rf _ _) (by decide), by dsimp only; rw [up_s], fun j' hj' => absurd hj' (Nat.not_lt_zero _)⟩
  · rintro j ⟨v3, v4, K⟩ hj ⟨k1, k2, k3⟩
    dsimp only at k1 k2 k3 ⊢
    right
    have hC1 := RepC_o hC g k1 (by decide)
    have F1 := Fix_e F k1 (by decide)
    have a1 := s_at0 (d + 6) 6 j 1 A K hC1 F1 g (by decide) hj (by decide)
    have e3 : eqo [32, 33, 34] K (mm_up (mm_up (mm_up K 33 0 j (nI (A 10 j 1))) 34 0 j (nI 0)) 32 0 (24 + j) (nI 0)) := eqo_up (eqo_up (eqo_up (eqo_rf _ _) (by decide)) (by decide)) (by decide)
    obtain ⟨I', w3, w4, p1, p2, p3⟩ := s_fbIn d j v4 A (mm_up (mm_up (mm_up K 33 0 j (nI (A 10 j 1))) 34 0 j (nI 0)) 32 0 (24 + j) (nI 0)) (RepC_o hC1 g e3 (by decide)) (Fix_e F1 e3 (by decide)) g hj (fun j' hj' => by
      obtain ⟨m1, m2, m3, m4⟩ := k3 j' hj'
      exact ⟨by rw [up_F (by omega), up_F (by omega), up_F (by omega)]; exact m1, by rw [up_F (by omega), up_F (by omega), up_F (by omega)]; exact m2, fun w hw => by rw [up_F (by omega), up_F (by omega), up_F (by omega)]; exact m3 w hw, fun w hw => by rw [up_F (by omega), up_F (by omega), up_F (by omega)]; exact m4 w hw⟩) ⟨by rw [up_F (by omega), up_F (by omega), up_s]; rfl, by rw [up_F (by omega), up_s], fun w hw q => by omega, fun w hw q => by rw [show w = 6 by omega, up_s]; rfl⟩
    have e4 : eqo [6, 31, 32, 33, 34] I I' := eqo_tr k1 (eqo_tr (eqo_mono e3 (by decide)) (eqo_mono p2 (by decide)))
    refine ⟨(some (.inl w3), w4, I'), ⟨e4, by dsimp only; rw [p2 6 (by decide), e3 6 (by decide)]; exact k2, p3⟩, ?_⟩
    dsimp only
    have st : Rn (d + 8) q_Roster_findBest 1 [some (.inr (6, 0)), some (.inr (3, 0)), some (.inl (nI j)), v3, v4] [] K = Rn (d + 8) q_Roster_findBest 4 [some (.inr (6, 0)), some (.inr (3, 0)), some (.inl (nI j)), some (.inl (nI 5)), v4] [] (mm_up (mm_up (mm_up K 33 0 j (nI (A 10 j 1))) 34 0 j (nI 0)) 32 0 (24 + j) (nI 0)) := by
      simp (disch := omega) only [e_Roster_findBest_2, e_Roster_findBest_3, e_Roster_findBest_1 (x2 := nI j), lit, nad, nml, bd_s, ct_s, ct_n, a11, a01, aB2, bitA, nlt, nle, neq, dlT, dlF, deT, deF, dqT, dqF, nN, inb, nsb, ndv, nrm, if_true, if_false, ite_true, ite_false, true_and, and_true, and_self, and_false, false_and, or_true, true_or, or_false, false_or, or_self, ↓reduceIte, eq_self, Nat.reduceAdd, Nat.reduceMul, Nat.reduceSub, Nat.reduceDiv, Nat.reduceMod, Nat.zero_add, Nat.mul_zero, not_true_eq_false, not_false_eq_true, up_T, up_F, wr_T, wr_F, ngE, ngE', ngL, ngL', ngQ, ngQ', k2, a1]
    rw [st, p1]
    simp (disch := omega) only [e_Roster_findBest_8, lit, nad, nml, bd_s, ct_s, ct_n, a11, a01, aB2, bitA, nlt, nle, neq, dlT, dlF, deT, deF, dqT, dqF, nN, inb, nsb, ndv, nrm, if_true, if_false, ite_true, ite_false, true_and, and_true, and_self, and_false, false_and, or_true, true_or, or_false, false_or, or_self, ↓reduceIte, eq_self, Nat.reduceAdd, Nat.reduceMul, Nat.reduceSub, Nat.reduceDiv, Nat.reduceMod, Nat.zero_add, Nat.mul_zero, not_true_eq_false, not_false_eq_true, up_T, up_F, wr_T, wr_F, ngE, ngE', ngL, ngL', ngQ, ngQ']
  · rintro ⟨v3, v4, K⟩ ⟨k1, k2, k3⟩
    dsimp only at k1 k2 k3 ⊢
    have e3 : eqo [6] K (mm_up (mm_up K 6 0 7 (-nI 1)) 6 0 8 (nI 0)) := eqo_up (eqo_up (eqo_rf _ _) (by decide)) (by decide)
    obtain ⟨I', p1, p2, p3, p4, p5, p6⟩ := s_pick d (A 0 0 8) (ndA A) (gvA A) hJ (fun j hj => (jbG g hj).2.2) (gvA_b g) 6 0 (fun _ => 0) (fun _ => 0) none (mm_up (mm_up K 6 0 7 (-nI 1)) 6 0 8 (nI 0)) rfl ⟨by rw [up_F (by omega), up_F (by omega)]; exact k2, fun j hj => by rw [up_F (by omega), up_F (by omega)]; exact (k3 j hj).1, fun w j hw hj => by rw [up_F (by omega), up_F (by omega)]; exact (k3 j hj).2.2.1 w hw, fun w j hw hj => by rw [up_F (by omega), up_F (by omega)]; exact (k3 j hj).2.2.2 w hw⟩ (fun j hj => by rw [up_F (by omega), up_F (by omega)]; exact (k3 j hj).2.1) ⟨by rw [up_F (by omega), up_s], by rw [up_s]⟩ (fun j hj => by have := hp_b (gvA_b g) 0 6 j; omega) (fun i hi => absurd hi (Nat.not_lt_zero _))
    refine ⟨I', ?_, eqo_tr (eqo_mono k1 (by decide)) (eqo_tr (eqo_mono e3 (by decide)) (eqo_mono p2 (by decide))), p6⟩
    simp (disch := omega) only [e_Roster_findBest_1, e_Roster_findBest_9, e_Roster_findBest_10, lit, nad, nml, bd_s, ct_s, ct_n, a11, a01, aB2, bitA, nlt, nle, neq, dlT, dlF, deT, deF, dqT, dqF, nN, inb, nsb, ndv, nrm, if_true, if_false, ite_true, ite_false, true_and, and_true, and_self, and_false, false_and, or_true, true_or, or_false, false_or, or_self, ↓reduceIte, eq_self, Nat.reduceAdd, Nat.reduceMul, Nat.reduceSub, Nat.reduceDiv, Nat.reduceMod, Nat.zero_add, Nat.mul_zero, not_true_eq_false, not_false_eq_true, up_T, up_F, wr_T, wr_F, ngE, ngE', ngL, ngL', ngQ, ngQ', k2, p1]
