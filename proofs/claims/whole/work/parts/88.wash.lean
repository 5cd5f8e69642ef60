/-! Calls: washed, mend, worth. -/
def wvA (A : mm_A) (p : Nat) : Int32 := ruA A p 3 (nI 0) 0
def ahT (A : mm_A) (p o : Nat) : Nat := if wvA A p < wvA A o then 1 else if wvA A o = wvA A p then (if o < p then 1 else 0) else 0
def ahA (A : mm_A) (p : Nat) : Nat := sm (ahT A p) (A 0 0 0)
def wsA (A : mm_A) (j : Nat) : Int32 := match fs (fun p => ahA A p == j) 0 (A 0 0 0) with
  | some p => nI p
  | none => -nI 1000000005
theorem ah_b (A : mm_A) (p : Nat) : ∀ n, sm (ahT A p) n ≤ n
  | 0 => Nat.le_refl _
  | n + 1 => by
    have := ah_b A p n
    have h2 : ahT A p n ≤ 1 := by
      unfold ahT
      split
      · omega
      · split
        · split <;> omega
        · omega
    rw [sm]
    omega
theorem ws_some {A : mm_A} {j p : Nat} (hp : p < A 0 0 0) (h1 : ahA A p = j) (h2 : ∀ q, q < p → ahA A q ≠ j) : wsA A j = nI p := by
  have : fs (fun p => ahA A p == j) 0 (A 0 0 0) = some p := fs_of (Nat.zero_le _) (by omega) (by simp [h1]) (fun i _ hi => by simp [h2 i hi])
  unfold wsA
  rw [this]
theorem ws_none {A : mm_A} {j : Nat} (h2 : ∀ q, q < A 0 0 0 → ahA A q ≠ j) : wsA A j = -nI 1000000005 := by
  have : fs (fun p => ahA A p == j) 0 (A 0 0 0) = none := fs_nof (fun i _ hi => by simp [h2 i (by omega)])
  unfold wsA
  rw [this]
theorem s_H_washedAheadOf (d p : Nat) (A : mm_A) (I : mm_I) (h1 : I 3 0 1 = nI (A 0 0 0)) (g : Good A) (hp : p < A 0 0 0) (hw : ∀ q, q < A 0 0 0 → I 45 0 q = wvA A q) : Sn (d + 1) q_H_washedAheadOf [.inr (11, 0), .inl (nI p)] I = some (some (.inl (nI (ahA A p))), (sh0, I)) := by
  have hn := g.1.1
  rw [n_H_washedAheadOf, e_H_washedAheadOf_0]
  refine lpX (n := A 0 0 0) (σ := Nat) (fun i t => Rn d q_H_washedAheadOf 1 [some (.inr (11, 0)), some (.inl (nI p)), some (.inl (nI t)), some (.inl (nI i))] [] I) (fun i t => t = sm (ahT A p) i) (fun r => r = _) (fun i t hi hV => Or.inr ⟨t + ahT A p i, by rw [hV, sm], by
    have w1 := hw i hi
    have w2 := hw p hp
    unfold ahT
    by_cases c1 : wvA A p < wvA A i
    · simp (disch := omega) only [e_H_washedAheadOf_2, e_H_washedAheadOf_3, e_H_washedAheadOf_4, e_H_washedAheadOf_5, e_H_washedAheadOf_6, e_H_washedAheadOf_1 (x3 := nI i), lit, nad, nml, bd_s, ct_s, ct_n, a11, a01, aB2, bitA, nlt, nle, neq, dlT, dlF, deT, deF, dqT, dqF, nN, inb, nsb, ndv, nrm, if_true, if_false, ite_true, ite_false, true_and, and_true, and_self, and_false, false_and, or_true, true_or, or_false, false_or, or_self, ↓reduceIte, eq_self, Nat.reduceAdd, Nat.reduceMul, Nat.reduceSub, Nat.reduceDiv, Nat.reduceMod, Nat.zero_add, Nat.mul_zero, not_true_eq_false, not_false_eq_true, up_T, up_F, wr_T, wr_F, ngE, ngE', ngL, ngL', ngQ, ngQ', h1, w1, w2, c1]
    · by_cases c2 : wvA A i = wvA A p
      · rw [c2] at w1 c1
        by_cases c3 : i < p <;> simp (disch := omega) only [e_H_washedAheadOf_2, e_H_washedAheadOf_3, e_H_washedAheadOf_4, e_H_washedAheadOf_5, e_H_washedAheadOf_6, e_H_washedAheadOf_1 (x3 := nI i), lit, nad, nml, bd_s, ct_s, ct_n, a11, a01, aB2, bitA, nlt, nle, neq, dlT, dlF, deT, deF, dqT, dqF, nN, inb, nsb, ndv, nrm, if_true, if_false, ite_true, ite_false, true_and, and_true, and_self, and_false, false_and, or_true, true_or, or_false, false_or, or_self, ↓reduceIte, eq_self, Nat.reduceAdd, Nat.reduceMul, Nat.reduceSub, Nat.reduceDiv, Nat.reduceMod, Nat.zero_add, Nat.mul_zero, not_true_eq_false, not_false_eq_true, up_T, up_F, wr_T, wr_F, ngE, ngE', ngL, ngL', ngQ, ngQ', h1, w1, w2, c1, c2, Nat.add_zero]
      · simp (disch := omega) only [e_H_washedAheadOf_2, e_H_washedAheadOf_3, e_H_washedAheadOf_4, e_H_washedAheadOf_5, e_H_washedAheadOf_6, e_H_washedAheadOf_1 (x3 := nI i), lit, nad, nml, bd_s, ct_s, ct_n, a11, a01, aB2, bitA, nlt, nle, neq, dlT, dlF, deT, deF, dqT, dqF, nN, inb, nsb, ndv, nrm, if_true, if_false, ite_true, ite_false, true_and, and_true, and_self, and_false, false_and, or_true, true_or, or_false, false_or, or_self, ↓reduceIte, eq_self, Nat.reduceAdd, Nat.reduceMul, Nat.reduceSub, Nat.reduceDiv, Nat.reduceMod, Nat.zero_add, Nat.mul_zero, not_true_eq_false, not_false_eq_true, up_T, up_F, wr_T, wr_F, ngE, ngE', ngL, ngL', ngQ, ngQ', h1, w1, w2, c1, c2, Nat.add_zero]⟩) (fun t hV => by
      rw [hV]
      simp (disch := omega) only [e_H_washedAheadOf_1, e_H_washedAheadOf_7, lit, nad, nml, bd_s, ct_s, ct_n, a11, a01, aB2, bitA, nlt, nle, neq, dlT, dlF, deT, deF, dqT, dqF, nN, inb, nsb, ndv, nrm, if_true, if_false, ite_true, ite_false, true_and, and_true, and_self, and_false, false_and, or_true, true_or, or_false, false_or, or_self, ↓reduceIte, eq_self, Nat.reduceAdd, Nat.reduceMul, Nat.reduceSub, Nat.reduceDiv, Nat.reduceMod, Nat.zero_add, Nat.mul_zero, not_true_eq_false, not_false_eq_true, up_T, up_F, wr_T, wr_F, ngE, ngE', ngL, ngL', ngQ, ngQ', h1]
      rfl) 0 0 (Nat.zero_le _) rfl
theorem Ok_washed (d : Nat) (t : Int32) : Ok (d + 200) q_H_washed q_M_washed [.inl t] := by
  rcases ix t with ht | ⟨j, hj, ht⟩
  · refine call_id (fun _ => -nI 1000000001) (fun A I _ _ _ _ => ?_) (fun A I hR _ _ _ => ?_)
    · simp (disch := omega) only [n_H_washed, e_H_washed_0, e_H_washed_1, lit, nad, nml, bd_s, ct_s, ct_n, a11, a01, aB2, bitA, nlt, nle, neq, dlT, dlF, deT, deF, dqT, dqF, nN, inb, nsb, ndv, nrm, if_true, if_false, ite_true, ite_false, true_and, and_true, and_self, and_false, false_and, or_true, true_or, or_false, false_or, or_self, ↓reduceIte, eq_self, Nat.reduceAdd, Nat.reduceMul, Nat.reduceSub, Nat.reduceDiv, Nat.reduceMod, Nat.zero_add, Nat.mul_zero, not_true_eq_false, not_false_eq_true, up_T, up_F, wr_T, wr_F, ngE, ngE', ngL, ngL', ngQ, ngQ', ht]
    · simp (disch := omega) only [n_M_washed, e_M_washed_0, e_M_washed_1, lit, nad, nml, bd_s, ct_s, ct_n, a11, a01, aB2, bitA, nlt, nle, neq, dlT, dlF, deT, deF, dqT, dqF, nN, inb, nsb, ndv, nrm, if_true, if_false, ite_true, ite_false, true_and, and_true, and_self, and_false, false_and, or_true, true_or, or_false, false_or, or_self, ↓reduceIte, eq_self, Nat.reduceAdd, Nat.reduceMul, Nat.reduceSub, Nat.reduceDiv, Nat.reduceMod, Nat.zero_add, Nat.mul_zero, not_true_eq_false, not_false_eq_true, up_T, up_F, wr_T, wr_F, ngE, ngE', ngL, ngL', ngQ, ngQ', ht]
  subst ht
  refine call_hill (fun A => wsA A j) (fun A => A) (fun A I hC F g _ => ?_) (fun A I hR g _ h8 => ?_) (fun A g h => ⟨g, h, rfl⟩)
  · have hn := g.1.1
    have s0 : Sn (d + 200) q_H_washed [.inr (11, 0), .inl (nI j)] I = Rn (d + 199) q_H_washed 3 [some (.inr (11, 0)), some (.inl (nI j)), some (.inl (nI 0))] [] I := by
      simp (disch := omega) only [n_H_washed, e_H_washed_0, e_H_washed_2, lit, nad, nml, bd_s, ct_s, ct_n, a11, a01, aB2, bitA, nlt, nle, neq, dlT, dlF, deT, deF, dqT, dqF, nN, inb, nsb, ndv, nrm, if_true, if_false, ite_true, ite_false, true_and, and_true, and_self, and_false, false_and, or_true, true_or, or_false, false_or, or_self, ↓reduceIte, eq_self, Nat.reduceAdd, Nat.reduceMul, Nat.reduceSub, Nat.reduceDiv, Nat.reduceMod, Nat.zero_add, Nat.mul_zero, not_true_eq_false, not_false_eq_true, up_T, up_F, wr_T, wr_F, ngE, ngE', ngL, ngL', ngQ, ngQ']
    rw [s0]
    have l1 := lpX (n := A 0 0 0) (σ := mm_I) (fun i s => Rn (d + 199) q_H_washed 3 [some (.inr (11, 0)), some (.inl (nI j)), some (.inl (nI i))] [] s) (fun i s => eqo [39, 44, 45] I s ∧ ∀ p, p < i → s 45 0 p = wvA A p) (fun q => ∃ J, (eqo [39, 44, 45] I J ∧ ∀ p, p < A 0 0 0 → J 45 0 p = wvA A p) ∧ q = Rn (d + 199) q_H_washed 7 [some (.inr (11, 0)), some (.inl (nI j)), some (.inl (nI 0))] [] J) (by
      rintro i J hi ⟨j1, j2⟩
      have hCJ := RepC_39 hC g j1 (by decide)
      obtain ⟨J2, r1, r2⟩ := s_H_ruled (d + 195) i 3 0 (nI 0) A J hCJ g hi (by decide) (fun q => by omega)
      have hst := hCJ.1.1
      refine Or.inr ⟨mm_up J2 45 0 i (wvA A i), ⟨eqo_up (eqo_tr j1 (eqo_mono r2 (by decide))) (by decide), fun p hp => ?_⟩, ?_⟩
      · by_cases w : p = i
        · rw [w, up_s]
        · rw [up_F (by omega), r2 45 (by decide)]; exact j2 p (by omega)
      · change Sn (d + 199) q_H_ruled [.inr (11, 0), .inl (nI i), .inl (nI 3), .inl (nI 0)] J = some (some (.inl (wvA A i)), (sh0, J2)) at r1
        simp (disch := omega) only [e_H_washed_4, e_H_washed_5, e_H_washed_3 (x2 := nI i), lit, nad, nml, bd_s, ct_s, ct_n, a11, a01, aB2, bitA, nlt, nle, neq, dlT, dlF, deT, deF, dqT, dqF, nN, inb, nsb, ndv, nrm, if_true, if_false, ite_true, ite_false, true_and, and_true, and_self, and_false, false_and, or_true, true_or, or_false, false_or, or_self, ↓reduceIte, eq_self, Nat.reduceAdd, Nat.reduceMul, Nat.reduceSub, Nat.reduceDiv, Nat.reduceMod, Nat.zero_add, Nat.mul_zero, not_true_eq_false, not_false_eq_true, up_T, up_F, wr_T, wr_F, ngE, ngE', ngL, ngL', ngQ, ngQ', hst, r1]) (by
      rintro J ⟨j1, j2⟩
      have hst := (RepC_39 hC g j1 (by decide)).1.1
      exact ⟨J, ⟨j1, j2⟩, by simp (disch := omega) only [e_H_washed_3, e_H_washed_6, lit, nad, nml, bd_s, ct_s, ct_n, a11, a01, aB2, bitA, nlt, nle, neq, dlT, dlF, deT, deF, dqT, dqF, nN, inb, nsb, ndv, nrm, if_true, if_false, ite_true, ite_false, true_and, and_true, and_self, and_false, false_and, or_true, true_or, or_false, false_or, or_self, ↓reduceIte, eq_self, Nat.reduceAdd, Nat.reduceMul, Nat.reduceSub, Nat.reduceDiv, Nat.reduceMod, Nat.zero_add, Nat.mul_zero, not_true_eq_false, not_false_eq_true, up_T, up_F, wr_T, wr_F, ngE, ngE', ngL, ngL', ngQ, ngQ', hst]⟩) 0 I (Nat.zero_le _) ⟨eqo_rf _ _, fun p hp => by omega⟩
    obtain ⟨J, ⟨j1, j2⟩, k1⟩ := l1
    rw [k1]
    have hCJ := RepC_39 hC g j1 (by decide)
    have hst := hCJ.1.1
    refine lpX (n := A 0 0 0) (σ := Unit) (fun i _ => Rn (d + 199) q_H_washed 7 [some (.inr (11, 0)), some (.inl (nI j)), some (.inl (nI i))] [] J) (fun i _ => ∀ q, q < i → ahA A q ≠ j) (fun q => ∃ I1, q = some (some (.inl (wsA A j)), (sh0, I1)) ∧ RepC 0 A I1 ∧ Fix I1 ∧ fr dC I I1) ?_ ?_ 0 () (Nat.zero_le _) (fun q hq => by omega)
    · intro i _ hi hV
      have ah := s_H_washedAheadOf (d + 198) i A J hst g hi j2
      have ab := ah_b A i (A 0 0 0)
      change ahA A i ≤ A 0 0 0 at ab
      by_cases w : ahA A i = j
      · left
        refine ⟨J, ?_, hCJ, Fix_e F j1 (by decide), dC_39 j1 (by decide)⟩
        rw [ws_some hi w hV]
        simp (disch := omega) only [e_H_washed_8, e_H_washed_9, e_H_washed_10, e_H_washed_7 (x2 := nI i), lit, nad, nml, bd_s, ct_s, ct_n, a11, a01, aB2, bitA, nlt, nle, neq, dlT, dlF, deT, deF, dqT, dqF, nN, inb, nsb, ndv, nrm, if_true, if_false, ite_true, ite_false, true_and, and_true, and_self, and_false, false_and, or_true, true_or, or_false, false_or, or_self, ↓reduceIte, eq_self, Nat.reduceAdd, Nat.reduceMul, Nat.reduceSub, Nat.reduceDiv, Nat.reduceMod, Nat.zero_add, Nat.mul_zero, not_true_eq_false, not_false_eq_true, up_T, up_F, wr_T, wr_F, ngE, ngE', ngL, ngL', ngQ, ngQ', hst, ah]
      · right
        refine ⟨(), fun q hq => ?_, ?_⟩
        · by_cases z : q = i
          · rw [z]; exact w
          · exact hV q (by omega)
        · simp (disch := omega) only [e_H_washed_8, e_H_washed_9, e_H_washed_11, e_H_washed_7 (x2 := nI i), lit, nad, nml, bd_s, ct_s, ct_n, a11, a01, aB2, bitA, nlt, nle, neq, dlT, dlF, deT, deF, dqT, dqF, nN, inb, nsb, ndv, nrm, if_true, if_false, ite_true, ite_false, true_and, and_true, and_self, and_false, false_and, or_true, true_or, or_false, false_or, or_self, ↓reduceIte, eq_self, Nat.reduceAdd, Nat.reduceMul, Nat.reduceSub, Nat.reduceDiv, Nat.reduceMod, Nat.zero_add, Nat.mul_zero, not_true_eq_false, not_false_eq_true, up_T, up_F, wr_T, wr_F, ngE, ngE', ngL, ngL', ngQ, ngQ', hst, ah]
    · intro _ hV
      refine ⟨J, ?_, hCJ, Fix_e F j1 (by decide), dC_39 j1 (by decide)⟩
      rw [ws_none hV]
      simp (disch := omega) only [e_H_washed_7, e_H_washed_12, lit, nad, nml, bd_s, ct_s, ct_n, a11, a01, aB2, bitA, nlt, nle, neq, dlT, dlF, deT, deF, dqT, dqF, nN, inb, nsb, ndv, nrm, if_true, if_false, ite_true, ite_false, true_and, and_true, and_self, and_false, false_and, or_true, true_or, or_false, false_or, or_self, ↓reduceIte, eq_self, Nat.reduceAdd, Nat.reduceMul, Nat.reduceSub, Nat.reduceDiv, Nat.reduceMod, Nat.zero_add, Nat.mul_zero, not_true_eq_false, not_false_eq_true, up_T, up_F, wr_T, wr_F, ngE, ngE', ngL, ngL', ngQ, ngQ', hst]
  · have hn := g.1.1
    have s0 : Sn (d + 200) q_M_washed [.inr (12, 0), .inl (nI j)] I = Rn (d + 199) q_M_washed 3 [some (.inr (12, 0)), some (.inl (nI j)), some (.inl (nI 0)), none, none, none, none] [] I := by
      simp (disch := omega) only [n_M_washed, e_M_washed_0, e_M_washed_2, lit, nad, nml, bd_s, ct_s, ct_n, a11, a01, aB2, bitA, nlt, nle, neq, dlT, dlF, deT, deF, dqT, dqF, nN, inb, nsb, ndv, nrm, if_true, if_false, ite_true, ite_false, true_and, and_true, and_self, and_false, false_and, or_true, true_or, or_false, false_or, or_self, ↓reduceIte, eq_self, Nat.reduceAdd, Nat.reduceMul, Nat.reduceSub, Nat.reduceDiv, Nat.reduceMod, Nat.zero_add, Nat.mul_zero, not_true_eq_false, not_false_eq_true, up_T, up_F, wr_T, wr_F, ngE, ngE', ngL, ngL', ngQ, ngQ']
    rw [s0]
    refine lpX (n := A 0 0 0) (σ := mm_I × Option mm_V × Option mm_V × Option mm_V × Option mm_V) (fun i s => Rn (d + 199) q_M_washed 3 [some (.inr (12, 0)), some (.inl (nI j)), some (.inl (nI i)), s.2.1, s.2.2.1, s.2.2.2.1, s.2.2.2.2] [] s.1) (fun i s => eqo [56, 57] I s.1 ∧ ∀ q, q < i → ahA A q ≠ j) (fun q => ∃ I1, q = some (some (.inl (wsA A j)), (sh0, I1)) ∧ RepR 0 A I1 ∧ fr dM' I I1 ∧ k12 I I1) ?_ ?_ 0 (I, none, none, none, none) (Nat.zero_le _) ⟨eqo_rf _ _, fun q hq => by omega⟩
    · rintro i ⟨J, v3, v4, v5, v6⟩ hi ⟨j1, j2⟩
      dsimp only at j1 j2 ⊢
      have hst : J 47 0 0 = nI (A 0 0 0) := by rw [j1 47 (by decide)]; exact hR.1 0 (by decide)
      have s1 : Rn (d + 199) q_M_washed 3 [some (.inr (12, 0)), some (.inl (nI j)), some (.inl (nI i)), v3, v4, v5, v6] [] J = Rn (d + 199) q_M_washed 5 [some (.inr (12, 0)), some (.inl (nI j)), some (.inl (nI i)), some (.inl (nI 0)), some (.inl (nI 0)), v5, v6] [] J := by
        simp (disch := omega) only [e_M_washed_3, e_M_washed_4, lit, nad, nml, bd_s, ct_s, ct_n, a11, a01, aB2, bitA, nlt, nle, neq, dlT, dlF, deT, deF, dqT, dqF, nN, inb, nsb, ndv, nrm, if_true, if_false, ite_true, ite_false, true_and, and_true, and_self, and_false, false_and, or_true, true_or, or_false, false_or, or_self, ↓reduceIte, eq_self, Nat.reduceAdd, Nat.reduceMul, Nat.reduceSub, Nat.reduceDiv, Nat.reduceMod, Nat.zero_add, Nat.mul_zero, not_true_eq_false, not_false_eq_true, up_T, up_F, wr_T, wr_F, ngE, ngE', ngL, ngL', ngQ, ngQ', hst]
      rw [s1]
      have l1 := lpX (n := A 0 0 0) (σ := mm_I × Option mm_V × Option mm_V) (fun o s => Rn (d + 199) q_M_washed 5 [some (.inr (12, 0)), some (.inl (nI j)), some (.inl (nI i)), some (.inl (nI (sm (ahT A i) o))), some (.inl (nI o)), s.2.1, s.2.2] [] s.1) (fun o s => eqo [56, 57] I s.1) (fun q => ∃ K w5 w6, eqo [56, 57] I K ∧ q = Rn (d + 199) q_M_washed 14 [some (.inr (12, 0)), some (.inl (nI j)), some (.inl (nI i)), some (.inl (nI (ahA A i))), some (.inl (nI (A 0 0 0))), w5, w6] [] K) (by
        rintro o ⟨K, u5, u6⟩ ho k1
        dsimp only at k1 ⊢
        have hRK : RepR 0 A K := RepR_o hR (by rw [k1 47 (by decide)])
        have hsK : K 47 0 0 = nI (A 0 0 0) := hRK.1 0 (by decide)
        obtain ⟨K1, r1, r2⟩ := s_M_ruled (d + 193) o 3 0 (nI 0) A K hRK g ho (by decide) (fun q => by omega)
        have hRK1 : RepR 0 A K1 := RepR_o hRK (by rw [r2 47 (by decide)])
        obtain ⟨K2, r3, r4⟩ := s_M_ruled (d + 193) i 3 0 (nI 0) A K1 hRK1 g hi (by decide) (fun q => by omega)
        change Sn (d + 199) q_M_ruled [.inr (12, 0), .inl (nI o), .inl (nI 3), .inl (nI 0)] K = some (some (.inl (wvA A o)), (sh0, K1)) at r1
        change Sn (d + 199) q_M_ruled [.inr (12, 0), .inl (nI i), .inl (nI 3), .inl (nI 0)] K1 = some (some (.inl (wvA A i)), (sh0, K2)) at r3
        refine Or.inr ⟨(K2, some (.inl (wvA A o)), some (.inl (wvA A i))), eqo_tr k1 (eqo_tr r2 r4), ?_⟩
        dsimp only
        rw [show sm (ahT A i) (o + 1) = sm (ahT A i) o + ahT A i o from rfl]
        unfold ahT
        by_cases c1 : wvA A i < wvA A o
        · simp (disch := omega) only [e_M_washed_6, e_M_washed_7, e_M_washed_8, e_M_washed_11, e_M_washed_13, e_M_washed_5 (x4 := nI o), lit, nad, nml, bd_s, ct_s, ct_n, a11, a01, aB2, bitA, nlt, nle, neq, dlT, dlF, deT, deF, dqT, dqF, nN, inb, nsb, ndv, nrm, if_true, if_false, ite_true, ite_false, true_and, and_true, and_self, and_false, false_and, or_true, true_or, or_false, false_or, or_self, ↓reduceIte, eq_self, Nat.reduceAdd, Nat.reduceMul, Nat.reduceSub, Nat.reduceDiv, Nat.reduceMod, Nat.zero_add, Nat.mul_zero, not_true_eq_false, not_false_eq_true, up_T, up_F, wr_T, wr_F, ngE, ngE', ngL, ngL', ngQ, ngQ', hsK, r1, r3, c1]
        · by_cases c2 : wvA A o = wvA A i
          · rw [c2] at r1 c1 ⊢
            by_cases c3 : o < i <;> simp (disch := omega) only [e_M_washed_6, e_M_washed_7, e_M_washed_8, e_M_washed_9, e_M_washed_10, e_M_washed_11, e_M_washed_12, e_M_washed_13, e_M_washed_5 (x4 := nI o), lit, nad, nml, bd_s, ct_s, ct_n, a11, a01, aB2, bitA, nlt, nle, neq, dlT, dlF, deT, deF, dqT, dqF, nN, inb, nsb, ndv, nrm, if_true, if_false, ite_true, ite_false, true_and, and_true, and_self, and_false, false_and, or_true, true_or, or_false, false_or, or_self, ↓reduceIte, eq_self, Nat.reduceAdd, Nat.reduceMul, Nat.reduceSub, Nat.reduceDiv, Nat.reduceMod, Nat.zero_add, Nat.mul_zero, not_true_eq_false, not_false_eq_true, up_T, up_F, wr_T, wr_F, ngE, ngE', ngL, ngL', ngQ, ngQ', hsK, r1, r3, c1, Nat.add_zero]
          · simp (disch := omega) only [e_M_washed_6, e_M_washed_7, e_M_washed_8, e_M_washed_9, e_M_washed_12, e_M_washed_13, e_M_washed_5 (x4 := nI o), lit, nad, nml, bd_s, ct_s, ct_n, a11, a01, aB2, bitA, nlt, nle, neq, dlT, dlF, deT, deF, dqT, dqF, nN, inb, nsb, ndv, nrm, if_true, if_false, ite_true, ite_false, true_and, and_true, and_self, and_false, false_and, or_true, true_or, or_false, false_or, or_self, ↓reduceIte, eq_self, Nat.reduceAdd, Nat.reduceMul, Nat.reduceSub, Nat.reduceDiv, Nat.reduceMod, Nat.zero_add, Nat.mul_zero, not_true_eq_false, not_false_eq_true, up_T, up_F, wr_T, wr_F, ngE, ngE', ngL, ngL', ngQ, ngQ', hsK, r1, r3, c1, c2, Nat.add_zero]) (by
        rintro ⟨K, u5, u6⟩ k1
        dsimp only at k1 ⊢
        have hsK : K 47 0 0 = nI (A 0 0 0) := by rw [k1 47 (by decide)]; exact hR.1 0 (by decide)
        refine ⟨K, u5, u6, k1, ?_⟩
        simp (disch := omega) only [e_M_washed_5, lit, nad, nml, bd_s, ct_s, ct_n, a11, a01, aB2, bitA, nlt, nle, neq, dlT, dlF, deT, deF, dqT, dqF, nN, inb, nsb, ndv, nrm, if_true, if_false, ite_true, ite_false, true_and, and_true, and_self, and_false, false_and, or_true, true_or, or_false, false_or, or_self, ↓reduceIte, eq_self, Nat.reduceAdd, Nat.reduceMul, Nat.reduceSub, Nat.reduceDiv, Nat.reduceMod, Nat.zero_add, Nat.mul_zero, not_true_eq_false, not_false_eq_true, up_T, up_F, wr_T, wr_F, ngE, ngE', ngL, ngL', ngQ, ngQ', hsK]
        rfl) 0 (J, v5, v6) (Nat.zero_le _) j1
      obtain ⟨K, w5, w6, k1, k2⟩ := l1
      have k2' : Rn (d + 199) q_M_washed 5 [some (.inr (12, 0)), some (.inl (nI j)), some (.inl (nI i)), some (.inl (nI 0)), some (.inl (nI 0)), v5, v6] [] J = Rn (d + 199) q_M_washed 14 [some (.inr (12, 0)), some (.inl (nI j)), some (.inl (nI i)), some (.inl (nI (ahA A i))), some (.inl (nI (A 0 0 0))), w5, w6] [] K := k2
      rw [k2']
      have ab := ah_b A i (A 0 0 0)
      change ahA A i ≤ A 0 0 0 at ab
      by_cases w : ahA A i = j
      · left
        refine ⟨K, ?_, RepR_o hR (by rw [k1 47 (by decide)]), dM_56 k1 (by decide), k12_e k1 (by decide)⟩
        rw [ws_some hi w j2]
        simp (disch := omega) only [e_M_washed_14, e_M_washed_15, lit, nad, nml, bd_s, ct_s, ct_n, a11, a01, aB2, bitA, nlt, nle, neq, dlT, dlF, deT, deF, dqT, dqF, nN, inb, nsb, ndv, nrm, if_true, if_false, ite_true, ite_false, true_and, and_true, and_self, and_false, false_and, or_true, true_or, or_false, false_or, or_self, ↓reduceIte, eq_self, Nat.reduceAdd, Nat.reduceMul, Nat.reduceSub, Nat.reduceDiv, Nat.reduceMod, Nat.zero_add, Nat.mul_zero, not_true_eq_false, not_false_eq_true, up_T, up_F, wr_T, wr_F, ngE, ngE', ngL, ngL', ngQ, ngQ']
      · right
        refine ⟨(K, some (.inl (nI (ahA A i))), some (.inl (nI (A 0 0 0))), w5, w6), ⟨k1, fun q hq => ?_⟩, ?_⟩
        · by_cases z : q = i
          · rw [z]; exact w
          · exact j2 q (by omega)
        · dsimp only
          simp (disch := omega) only [e_M_washed_14, e_M_washed_16, lit, nad, nml, bd_s, ct_s, ct_n, a11, a01, aB2, bitA, nlt, nle, neq, dlT, dlF, deT, deF, dqT, dqF, nN, inb, nsb, ndv, nrm, if_true, if_false, ite_true, ite_false, true_and, and_true, and_self, and_false, false_and, or_true, true_or, or_false, false_or, or_self, ↓reduceIte, eq_self, Nat.reduceAdd, Nat.reduceMul, Nat.reduceSub, Nat.reduceDiv, Nat.reduceMod, Nat.zero_add, Nat.mul_zero, not_true_eq_false, not_false_eq_true, up_T, up_F, wr_T, wr_F, ngE, ngE', ngL, ngL', ngQ, ngQ']
    · rintro ⟨J, v3, v4, v5, v6⟩ ⟨j1, j2⟩
      dsimp only at j1 j2 ⊢
      have hst : J 47 0 0 = nI (A 0 0 0) := by rw [j1 47 (by decide)]; exact hR.1 0 (by decide)
      refine ⟨J, ?_, RepR_o hR (by rw [j1 47 (by decide)]), dM_56 j1 (by decide), k12_e j1 (by decide)⟩
      rw [ws_none j2]
      simp (disch := omega) only [e_M_washed_3, e_M_washed_17, lit, nad, nml, bd_s, ct_s, ct_n, a11, a01, aB2, bitA, nlt, nle, neq, dlT, dlF, deT, deF, dqT, dqF, nN, inb, nsb, ndv, nrm, if_true, if_false, ite_true, ite_false, true_and, and_true, and_self, and_false, false_and, or_true, true_or, or_false, false_or, or_self, ↓reduceIte, eq_self, Nat.reduceAdd, Nat.reduceMul, Nat.reduceSub, Nat.reduceDiv, Nat.reduceMod, Nat.zero_add, Nat.mul_zero, not_true_eq_false, not_false_eq_true, up_T, up_F, wr_T, wr_F, ngE, ngE', ngL, ngL', ngQ, ngQ', hst]
