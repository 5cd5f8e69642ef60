/-! What a mend is worth. -/
def wyN (k s o b r w : Nat) : Nat → Nat
  | 0 => w
  | i + 1 => wdN (wyN k s o b r w i) (wrN k s o b r + brN (wyN k s o b r w i))
theorem wyN_b {k s o b r w : Nat} (h1 : 1 ≤ w) (h2 : w ≤ 9999) : ∀ i, 1 ≤ wyN k s o b r w i ∧ wyN k s o b r w i ≤ 9999
  | 0 => ⟨h1, h2⟩
  | i + 1 => by
    have := wyN_b (k := k) (s := s) (o := o) (b := b) (r := r) h1 h2 i
    rw [wyN]
    unfold wdN
    split <;> omega
/-- the width behind n years: of kind 0 stands for no mend -/
noncomputable def wbA (A : mm_A) (p kind b n : Nat) : Nat := if kind = 0 then wyN (A 1 p 8) (A 1 p 3) (A 1 p 4) b (rnA A (A 0 0 11)) (A 1 p 5) n else wyN kind (A 1 p 3) (A 1 p 4) b (rnA A (A 0 0 11)) (mn12 (A 1 p 5)) n
theorem mn_b {w : Nat} (h : 1 ≤ w) : 1 ≤ mn12 w ∧ mn12 w ≤ 12 := by unfold mn12; split <;> omega
theorem uN_uN (f : Nat → Nat) (a x y : Nat) : uN (uN f a x) a y = uN f a y := by
  funext c
  unfold uN
  split <;> rfl
theorem s_likeLoop (d p n b r kd : Nat) (x2 : Int32) (f : Nat → Nat) (I : mm_I) (hp : p < 16) (hS : StC I 48 f) (g : StG f) (hk : f 8 = kd) (hn : n ≤ 30) (hb : b ≤ 1079892) (hr : r ≤ 20) (h43 : I 43 0 p = nI b) : ∃ I', Rn (d + 3) q_H_widthBehind 5 [some (.inr (11, 0)), some (.inl (nI p)), some (.inl x2), some (.inl (nI n)), some (.inl (nI r)), some (.inl (nI 0))] [] I = some (some (.inl (nI (wyN kd (f 3) (f 4) b r (f 5) n))), (sh0, I')) ∧ ∀ k i, ¬ (k = 8 ∧ i = 48) → I' k i = I k i := by
  have g1 := g.2.2.2.2.2.2.2.1
  have g2 := g.2.2.2.2.2.2.2.2.1
  refine lpX (n := n) (σ := mm_I) (fun i s => Rn (d + 3) q_H_widthBehind 5 [some (.inr (11, 0)), some (.inl (nI p)), some (.inl x2), some (.inl (nI n)), some (.inl (nI r)), some (.inl (nI i))] [] s) (fun i s => StC s 48 (uN f 5 (wyN kd (f 3) (f 4) b r (f 5) i)) ∧ ∀ k i, ¬ (k = 8 ∧ i = 48) → s k i = I k i) (fun q => ∃ I', q = some (some (.inl (nI (wyN kd (f 3) (f 4) b r (f 5) n))), (sh0, I')) ∧ ∀ k i, ¬ (k = 8 ∧ i = 48) → I' k i = I k i) ?_ ?_ 0 I (Nat.zero_le _) ⟨?_, fun _ _ _ => rfl⟩
  · rintro i J hi ⟨j1, j2⟩
    obtain ⟨b1, b2⟩ := wyN_b (k := kd) (s := f 3) (o := f 4) (b := b) (r := r) g1 g2 i
    have gr := s_Stretch_grow d 48 b r _ J j1 (StG_w g b1 b2) hb hr
    have h5 : uN f 5 (wyN kd (f 3) (f 4) b r (f 5) i) 5 = wyN kd (f 3) (f 4) b r (f 5) i := uN_s _ _ _
    have hw : wrF (uN f 5 (wyN kd (f 3) (f 4) b r (f 5) i)) b r = wrN kd (f 3) (f 4) b r := by
      unfold wrF
      rw [uN_n (by decide), uN_n (by decide), uN_n (by decide), hk]
    rw [h5, hw] at gr
    have h43' : J 43 0 p = nI b := by rw [j2 43 0 (by omega)]; exact h43
    refine Or.inr ⟨mm_up J 8 48 6 (nI (wyN kd (f 3) (f 4) b r (f 5) (i + 1))), ⟨?_, fun k i q => ?_⟩, ?_⟩
    · have := StC_up (c := 5) (v := wyN kd (f 3) (f 4) b r (f 5) (i + 1)) j1 (by decide)
      rw [uN_uN] at this
      exact this
    · rw [← j2 k i q]
      funext z
      exact up_F (by omega)
    · simp (disch := omega) only [e_H_widthBehind_6, e_H_widthBehind_7, e_H_widthBehind_5 (x5 := nI i), lit, nad, nml, bd_s, ct_s, ct_n, a11, a01, aB2, bitA, nlt, nle, neq, dlT, dlF, deT, deF, dqT, dqF, nN, inb, nsb, ndv, nrm, if_true, if_false, ite_true, ite_false, true_and, and_true, and_self, and_false, false_and, or_true, true_or, or_false, false_or, or_self, ↓reduceIte, eq_self, Nat.reduceAdd, Nat.reduceMul, Nat.reduceSub, Nat.reduceDiv, Nat.reduceMod, Nat.zero_add, Nat.mul_zero, not_true_eq_false, not_false_eq_true, up_T, up_F, wr_T, wr_F, ngE, ngE', ngL, ngL', ngQ, ngQ', h43', gr, wyN]
  · rintro J ⟨j1, j2⟩
    have h6 : J 8 48 6 = nI (wyN kd (f 3) (f 4) b r (f 5) n) := by
      have := j1.2.2.2.2.2.1
      rw [uN_s] at this
      exact this
    exact ⟨J, by simp (disch := omega) only [e_H_widthBehind_5, e_H_widthBehind_8, lit, nad, nml, bd_s, ct_s, ct_n, a11, a01, aB2, bitA, nlt, nle, neq, dlT, dlF, deT, deF, dqT, dqF, nN, inb, nsb, ndv, nrm, if_true, if_false, ite_true, ite_false, true_and, and_true, and_self, and_false, false_and, or_true, true_or, or_false, false_or, or_self, ↓reduceIte, eq_self, Nat.reduceAdd, Nat.reduceMul, Nat.reduceSub, Nat.reduceDiv, Nat.reduceMod, Nat.zero_add, Nat.mul_zero, not_true_eq_false, not_false_eq_true, up_T, up_F, wr_T, wr_F, ngE, ngE', ngL, ngL', ngQ, ngQ', h6], j2⟩
  · have : uN f 5 (wyN kd (f 3) (f 4) b r (f 5) 0) = f := by
      funext c
      unfold uN wyN
      split
      · rename_i e; rw [e]
      · rfl
    rw [this]
    exact hS
theorem s_H_widthBehind (d p kind n b : Nat) (A : mm_A) (I : mm_I) (hC : RepC 0 A I) (g : Good A) (hp : p < A 0 0 0) (hk : kind ≤ 4) (hn : n ≤ 30) (hb : b ≤ 1079892) (hy : A 0 0 11 ≤ 300) (h43 : I 43 0 p = nI b) : ∃ I', Sn (d + 4) q_H_widthBehind [.inr (11, 0), .inl (nI p), .inl (nI kind), .inl (nI n)] I = some (some (.inl (nI (wbA A p kind b n))), (sh0, I')) ∧ ∀ k i, ¬ (k = 8 ∧ i = 48) → I' k i = I k i := by
  have hN := g.1.1
  have gs := stG g hp
  obtain ⟨I1, a1, a2, a3⟩ := s_Stretch_become (d + 2) 48 p (A 1 p) I (c0_st hC hp) gs.2.2.2.2.2.2.2.2.2.2.1 (by omega)
  have e : ∀ (J : mm_I), (∀ k i, ¬ (k = 8 ∧ i = 48) → J k i = I k i) → RepC 0 A J := fun J hJ => RepC_fr hC g (fun k i q => hJ k i (by unfold hc at q; omega))
  have g1 := gs.2.2.2.2.2.2.2.1
  have g2 := gs.2.2.2.2.2.2.2.2.1
  have hrb := rnA_b g (A 0 0 11)
  unfold wbA
  by_cases w : kind = 0
  · subst w
    have hC1 := e I1 a3
    have ri := s_Hills_rainIn (d + 2) 0 (A 0 0 11) A I1 hC1 (by omega)
    have hyr := hC1.1.2.2.2.2
    obtain ⟨I2, b1, b2⟩ := s_likeLoop d p n b (rnA A (A 0 0 11)) (A 1 p 8) (nI 0) (A 1 p) I1 (by omega) a2 gs rfl hn hb hrb (by rw [a3 43 0 (by omega)]; exact h43)
    refine ⟨I2, ?_, fun k i q => by rw [b2 k i q, a3 k i q]⟩
    rw [if_pos rfl, ← b1]
    simp (disch := omega) only [n_H_widthBehind, e_H_widthBehind_0, e_H_widthBehind_1, e_H_widthBehind_3, e_H_widthBehind_4, lit, nad, nml, bd_s, ct_s, ct_n, a11, a01, aB2, bitA, nlt, nle, neq, dlT, dlF, deT, deF, dqT, dqF, nN, inb, nsb, ndv, nrm, if_true, if_false, ite_true, ite_false, true_and, and_true, and_self, and_false, false_and, or_true, true_or, or_false, false_or, or_self, ↓reduceIte, eq_self, Nat.reduceAdd, Nat.reduceMul, Nat.reduceSub, Nat.reduceDiv, Nat.reduceMod, Nat.zero_add, Nat.mul_zero, not_true_eq_false, not_false_eq_true, up_T, up_F, wr_T, wr_F, ngE, ngE', ngL, ngL', ngQ, ngQ', a1, hyr, ri]
  · have mt := s_Stretch_mendTo (d + 2) 48 kind (A 1 p 5) I1 a2.2.2.2.2.2.1 g2
    have s1 := StC_up (c := 8) (v := kind) a2 (by decide)
    have s2 : StC (mm_up (mm_up I1 8 48 7 (nI kind)) 8 48 6 (nI (mn12 (A 1 p 5)))) 48 (uN (uN (A 1 p) 8 kind) 5 (mn12 (A 1 p 5))) := StC_up (c := 5) (v := mn12 (A 1 p 5)) s1 (by decide)
    have e2 : ∀ k i, ¬ (k = 8 ∧ i = 48) → (mm_up (mm_up I1 8 48 7 (nI kind)) 8 48 6 (nI (mn12 (A 1 p 5)))) k i = I k i := fun k i q => by
      rw [← a3 k i q]
      funext z
      rw [up_F (by omega), up_F (by omega)]
    have hC1 := e _ e2
    have ri := s_Hills_rainIn (d + 2) 0 (A 0 0 11) A _ hC1 (by omega)
    have hyr : I1 3 0 4 = nI (A 0 0 11) := (e I1 a3).1.2.2.2.2
    obtain ⟨m1, m2⟩ := mn_b g1
    have gg : StG (uN (uN (A 1 p) 8 kind) 5 (mn12 (A 1 p 5))) := StG_w (StG_k gs hk) m1 (by omega)
    obtain ⟨I2, b1, b2⟩ := s_likeLoop d p n b (rnA A (A 0 0 11)) kind (nI kind) _ _ (by omega) s2 gg (by rw [uN_n (by decide), uN_s]) hn hb hrb (by rw [e2 43 0 (by omega)]; exact h43)
    rw [uN_n (show 3 ≠ 5 by decide), uN_n (show 3 ≠ 8 by decide), uN_n (show 4 ≠ 5 by decide), uN_n (show 4 ≠ 8 by decide), uN_s] at b1
    refine ⟨I2, ?_, fun k i q => by rw [b2 k i q, e2 k i q]⟩
    rw [if_neg w]
    refine Eq.trans ?_ b1
    simp (disch := omega) only [n_H_widthBehind, e_H_widthBehind_0, e_H_widthBehind_1, e_H_widthBehind_2, e_H_widthBehind_3, e_H_widthBehind_4, lit, nad, nml, bd_s, ct_s, ct_n, a11, a01, aB2, bitA, nlt, nle, neq, dlT, dlF, deT, deF, dqT, dqF, nN, inb, nsb, ndv, nrm, if_true, if_false, ite_true, ite_false, true_and, and_true, and_self, and_false, false_and, or_true, true_or, or_false, false_or, or_self, ↓reduceIte, eq_self, Nat.reduceAdd, Nat.reduceMul, Nat.reduceSub, Nat.reduceDiv, Nat.reduceMod, Nat.zero_add, Nat.mul_zero, not_true_eq_false, not_false_eq_true, up_T, up_F, wr_T, wr_F, ngE, ngE', ngL, ngL', ngQ, ngQ', a1, mt, hyr, ri]
theorem s_M_widthBehind (d p kind w n b : Nat) (A : mm_A) (I : mm_I) (hR : RepR 0 A I) (g : Good A) (hp : p < A 0 0 0) (hk : kind ≤ 4) (hw1 : 1 ≤ w) (hw : w ≤ 9999) (hn : n ≤ 30) (hb : b ≤ 1079892) (h51 : I 51 0 p = nI b) : Sn (d + 4) q_M_widthBehind [.inr (12, 0), .inl (nI p), .inl (nI kind), .inl (nI w), .inl (nI n)] I = some (some (.inl (nI (wyN kind (A 1 p 3) (A 1 p 4) b (rnA A (A 0 0 11)) w n))), (sh0, I)) := by
  have hN := g.1.1
  have gs := stG g hp
  have hy := g.1.2.2.2.2
  have hyr : I 47 0 11 = nI (A 0 0 11) := hR.1 11 (by decide)
  have ri := s_M_rainIn (d + 2) (A 0 0 11) A I hR (by omega)
  have o3 := s_M_of9 (d + 2) p 3 A I hR g hp (by decide)
  have o4 := s_M_of9 (d + 2) p 4 A I hR g hp (by decide)
  have hrb := rnA_b g (A 0 0 11)
  rw [n_M_widthBehind, e_M_widthBehind_0]
  refine lpX (n := n) (σ := Unit) (fun i _ => Rn (d + 3) q_M_widthBehind 1 [some (.inr (12, 0)), some (.inl (nI p)), some (.inl (nI kind)), some (.inl (nI w)), some (.inl (nI n)), some (.inl (nI (wyN kind (A 1 p 3) (A 1 p 4) b (rnA A (A 0 0 11)) w i))), some (.inl (nI i))] [] I) (fun _ _ => True) (fun r => r = _) (fun i _ hi _ => Or.inr ⟨(), trivial, ?_⟩) (fun _ _ => ?_) 0 () (Nat.zero_le _) trivial
  · obtain ⟨b1, b2⟩ := wyN_b (k := kind) (s := A 1 p 3) (o := A 1 p 4) (b := b) (r := rnA A (A 0 0 11)) hw1 hw i
    have wb := s_M_widerBy d kind (A 1 p 3) (A 1 p 4) (wyN kind (A 1 p 3) (A 1 p 4) b (rnA A (A 0 0 11)) w i) b (rnA A (A 0 0 11)) I hk gs.2.2.2.2.2.1 gs.2.2.2.2.2.2.1 b2 hb hrb
    simp (disch := omega) only [e_M_widthBehind_2, e_M_widthBehind_3, e_M_widthBehind_4, e_M_widthBehind_5, e_M_widthBehind_6, e_M_widthBehind_1 (x6 := nI i), lit, nad, nml, bd_s, ct_s, ct_n, a11, a01, aB2, bitA, nlt, nle, neq, dlT, dlF, deT, deF, dqT, dqF, nN, inb, nsb, ndv, nrm, if_true, if_false, ite_true, ite_false, true_and, and_true, and_self, and_false, false_and, or_true, true_or, or_false, false_or, or_self, ↓reduceIte, eq_self, Nat.reduceAdd, Nat.reduceMul, Nat.reduceSub, Nat.reduceDiv, Nat.reduceMod, Nat.zero_add, Nat.mul_zero, not_true_eq_false, not_false_eq_true, up_T, up_F, wr_T, wr_F, ngE, ngE', ngL, ngL', ngQ, ngQ', o3, o4, h51, hyr, ri, wb, wyN]
  · simp (disch := omega) only [e_M_widthBehind_1, e_M_widthBehind_7, lit, nad, nml, bd_s, ct_s, ct_n, a11, a01, aB2, bitA, nlt, nle, neq, dlT, dlF, deT, deF, dqT, dqF, nN, inb, nsb, ndv, nrm, if_true, if_false, ite_true, ite_false, true_and, and_true, and_self, and_false, false_and, or_true, true_or, or_false, false_or, or_self, ↓reduceIte, eq_self, Nat.reduceAdd, Nat.reduceMul, Nat.reduceSub, Nat.reduceDiv, Nat.reduceMod, Nat.zero_add, Nat.mul_zero, not_true_eq_false, not_false_eq_true, up_T, up_F, wr_T, wr_F, ngE, ngE', ngL, ngL', ngQ, ngQ']
noncomputable def woA (A : mm_A) (p kind b n : Nat) : Int32 := nI (wbA A p 0 b n) - nI (wbA A p kind b n)
theorem s_M_worthOf (d p kind n b : Nat) (A : mm_A) (I : mm_I) (hR : RepR 0 A I) (g : Good A) (hp : p < A 0 0 0) (hk0 : 1 ≤ kind) (hk : kind ≤ 4) (hn : n ≤ 30) (hb : b ≤ 1079892) (h51 : I 51 0 p = nI b) : Sn (d + 5) q_M_worthOf [.inr (12, 0), .inl (nI p), .inl (nI kind), .inl (nI n)] I = some (some (.inl (woA A p kind b n)), (sh0, I)) := by
  have gs := stG g hp
  have g1 := gs.2.2.2.2.2.2.2.1
  have g2 := gs.2.2.2.2.2.2.2.2.1
  have g11 := gs.2.2.2.2.2.2.2.2.2.2.2
  obtain ⟨m1, m2⟩ := mn_b g1
  have o8 := s_M_of9 (d + 3) p 8 A I hR g hp (by decide)
  have o5 := s_M_of9 (d + 3) p 5 A I hR g hp (by decide)
  have w0 := s_M_widthBehind d p (A 1 p 8) (A 1 p 5) n b A I hR g hp g11 g1 g2 hn hb h51
  have w1 := s_M_widthBehind d p kind (mn12 (A 1 p 5)) n b A I hR g hp hk m1 (by omega) hn hb h51
  have e0 : wbA A p 0 b n = wyN (A 1 p 8) (A 1 p 3) (A 1 p 4) b (rnA A (A 0 0 11)) (A 1 p 5) n := if_pos rfl
  have e1 : wbA A p kind b n = wyN kind (A 1 p 3) (A 1 p 4) b (rnA A (A 0 0 11)) (mn12 (A 1 p 5)) n := if_neg (by omega)
  have ls : (if nI 12 < nI (A 1 p 5) then nI 12 else nI (A 1 p 5)) = nI (mn12 (A 1 p 5)) := by
    unfold mn12
    by_cases c : 12 < A 1 p 5
    · rw [if_pos (by rw [nlt (by decide) (by omega)]; exact c), if_neg (by omega)]
    · rw [if_neg (by rw [nlt (by decide) (by omega)]; exact c), if_pos (by omega)]
  unfold woA
  rw [e0, e1]
  simp (disch := omega) only [n_M_worthOf, e_M_worthOf_0, e_M_worthOf_1, e_M_worthOf_2, e_M_worthOf_3, e_M_worthOf_4, e_M_worthOf_5, e_M_worthOf_6, lit, bd_s, ct_s, o8, o5, w0, s_M_lesser, ls, w1]
theorem Ok_worth (d : Nat) (t k y : Int32) : Ok (d + 200) q_H_worth q_M_worth [.inl t, .inl k, .inl y] := by
  rcases ix t with ht | ⟨j, hj, ht⟩
  · refine call_id (fun _ => -nI 1000000001) (fun A I _ _ _ _ => ?_) (fun A I hR _ _ _ => ?_)
    · simp (disch := omega) only [n_H_worth, e_H_worth_0, e_H_worth_1, e_H_worth_2, e_H_worth_3, e_H_worth_4, e_H_worth_5, e_H_worth_6, s_H_isStretchN _ _ _ ht, lit, nad, nml, bd_s, ct_s, ct_n, a11, a01, aB2, bitA, nlt, nle, neq, dlT, dlF, deT, deF, dqT, dqF, nN, inb, nsb, ndv, nrm, if_true, if_false, ite_true, ite_false, true_and, and_true, and_self, and_false, false_and, or_true, true_or, or_false, false_or, or_self, ↓reduceIte, eq_self, Nat.reduceAdd, Nat.reduceMul, Nat.reduceSub, Nat.reduceDiv, Nat.reduceMod, Nat.zero_add, Nat.mul_zero, not_true_eq_false, not_false_eq_true, up_T, up_F, wr_T, wr_F, ngE, ngE', ngL, ngL', ngQ, ngQ']
    · simp (disch := omega) only [n_M_worth, e_M_worth_0, e_M_worth_1, e_M_worth_2, e_M_worth_3, e_M_worth_4, e_M_worth_5, e_M_worth_6, e_M_worth_7, e_M_worth_8, e_M_worth_9, s_M_isPathN _ _ _ ht, lit, nad, nml, bd_s, ct_s, ct_n, a11, a01, aB2, bitA, nlt, nle, neq, dlT, dlF, deT, deF, dqT, dqF, nN, inb, nsb, ndv, nrm, if_true, if_false, ite_true, ite_false, true_and, and_true, and_self, and_false, false_and, or_true, true_or, or_false, false_or, or_self, ↓reduceIte, eq_self, Nat.reduceAdd, Nat.reduceMul, Nat.reduceSub, Nat.reduceDiv, Nat.reduceMod, Nat.zero_add, Nat.mul_zero, not_true_eq_false, not_false_eq_true, up_T, up_F, wr_T, wr_F, ngE, ngE', ngL, ngL', ngQ, ngQ']
  subst ht
  by_cases h1 : nI 1 ≤ k ∧ k ≤ nI 4
  rotate_left
  · refine call_id (fun _ => -nI 1000000001) (fun A I hC _ g _ => ?_) (fun A I hR g _ _ => ?_)
    · have hh := s_H_isStretch (d + 197) j A I hC g hj
      by_cases e : j < A 0 0 0 <;> simp only [e, if_true, if_false] at hh <;> simp (disch := omega) only [n_H_worth, e_H_worth_0, e_H_worth_1, e_H_worth_2, e_H_worth_3, e_H_worth_4, e_H_worth_5, e_H_worth_6, s_H_within, lit, nad, nml, bd_s, ct_s, ct_n, a11, a01, aB2, bitA, nlt, nle, neq, dlT, dlF, deT, deF, dqT, dqF, nN, inb, nsb, ndv, nrm, if_true, if_false, ite_true, ite_false, true_and, and_true, and_self, and_false, false_and, or_true, true_or, or_false, false_or, or_self, ↓reduceIte, eq_self, Nat.reduceAdd, Nat.reduceMul, Nat.reduceSub, Nat.reduceDiv, Nat.reduceMod, Nat.zero_add, Nat.mul_zero, not_true_eq_false, not_false_eq_true, up_T, up_F, wr_T, wr_F, ngE, ngE', ngL, ngL', ngQ, ngQ', hh, h1]
    · have hh := s_M_isPath (d + 197) j A I hR g hj
      by_cases e : j < A 0 0 0 <;> simp only [e, if_true, if_false] at hh <;> simp (disch := omega) only [n_M_worth, e_M_worth_0, e_M_worth_1, e_M_worth_2, e_M_worth_3, e_M_worth_4, e_M_worth_5, e_M_worth_6, e_M_worth_7, e_M_worth_8, e_M_worth_9, s_M_in, lit, nad, nml, bd_s, ct_s, ct_n, a11, a01, aB2, bitA, nlt, nle, neq, dlT, dlF, deT, deF, dqT, dqF, nN, inb, nsb, ndv, nrm, if_true, if_false, ite_true, ite_false, true_and, and_true, and_self, and_false, false_and, or_true, true_or, or_false, false_or, or_self, ↓reduceIte, eq_self, Nat.reduceAdd, Nat.reduceMul, Nat.reduceSub, Nat.reduceDiv, Nat.reduceMod, Nat.zero_add, Nat.mul_zero, not_true_eq_false, not_false_eq_true, up_T, up_F, wr_T, wr_F, ngE, ngE', ngL, ngL', ngQ, ngQ', hh, h1]
  obtain ⟨k', k0, k1, k2⟩ := wof h1 (by decide) (by decide)
  subst k2
  by_cases h2 : nI 1 ≤ y ∧ y ≤ nI 30
  rotate_left
  · refine call_id (fun _ => -nI 1000000001) (fun A I hC _ g _ => ?_) (fun A I hR g _ _ => ?_)
    · have hh := s_H_isStretch (d + 197) j A I hC g hj
      by_cases e : j < A 0 0 0 <;> simp only [e, if_true, if_false] at hh <;> simp (disch := omega) only [n_H_worth, e_H_worth_0, e_H_worth_1, e_H_worth_2, e_H_worth_3, e_H_worth_4, e_H_worth_5, e_H_worth_6, s_H_within, lit, nad, nml, bd_s, ct_s, ct_n, a11, a01, aB2, bitA, nlt, nle, neq, dlT, dlF, deT, deF, dqT, dqF, nN, inb, nsb, ndv, nrm, if_true, if_false, ite_true, ite_false, true_and, and_true, and_self, and_false, false_and, or_true, true_or, or_false, false_or, or_self, ↓reduceIte, eq_self, Nat.reduceAdd, Nat.reduceMul, Nat.reduceSub, Nat.reduceDiv, Nat.reduceMod, Nat.zero_add, Nat.mul_zero, not_true_eq_false, not_false_eq_true, up_T, up_F, wr_T, wr_F, ngE, ngE', ngL, ngL', ngQ, ngQ', hh, h2]
    · have hh := s_M_isPath (d + 197) j A I hR g hj
      by_cases e : j < A 0 0 0 <;> simp only [e, if_true, if_false] at hh <;> simp (disch := omega) only [n_M_worth, e_M_worth_0, e_M_worth_1, e_M_worth_2, e_M_worth_3, e_M_worth_4, e_M_worth_5, e_M_worth_6, e_M_worth_7, e_M_worth_8, e_M_worth_9, s_M_in, lit, nad, nml, bd_s, ct_s, ct_n, a11, a01, aB2, bitA, nlt, nle, neq, dlT, dlF, deT, deF, dqT, dqF, nN, inb, nsb, ndv, nrm, if_true, if_false, ite_true, ite_false, true_and, and_true, and_self, and_false, false_and, or_true, true_or, or_false, false_or, or_self, ↓reduceIte, eq_self, Nat.reduceAdd, Nat.reduceMul, Nat.reduceSub, Nat.reduceDiv, Nat.reduceMod, Nat.zero_add, Nat.mul_zero, not_true_eq_false, not_false_eq_true, up_T, up_F, wr_T, wr_F, ngE, ngE', ngL, ngL', ngQ, ngQ', hh, h2]
  obtain ⟨y', y0, y1, y2⟩ := wof h2 (by decide) (by decide)
  subst y2
  refine call_hill (fun A => if j < A 0 0 0 then woA A j k' (bo A 99 j) y' else -nI 1000000001) (fun A => A) (fun A I hC F g hy => ?_) (fun A I hR g hy h8 => ?_) (fun A g h => ⟨g, h, rfl⟩)
  · have hn := g.1.1
    have hh := s_H_isStretch (d + 197) j A I hC g hj
    by_cases e : j < A 0 0 0
    · simp only [if_pos e] at hh ⊢
      obtain ⟨I1, t1, t2, t3⟩ := s_Walk_tread (d + 195) 0 99 (-nI 1000000005) A I hC F (by decide) g hzN
      have hC1 := RepC_o hC g t2 (by decide)
      obtain ⟨I2, a1, a2⟩ := s_H_widthBehind (d + 195) j 0 y' (bo A 99 j) A I1 hC1 g e (by decide) y1 (bo_b g j) (by omega) (t3 j (by omega))
      have hC2 : RepC 0 A I2 := RepC_fr hC1 g (fun k i q => a2 k i (by unfold hc at q; omega))
      obtain ⟨I3, b1, b2⟩ := s_H_widthBehind (d + 195) j k' y' (bo A 99 j) A I2 hC2 g e k1 y1 (bo_b g j) (by omega) (by rw [a2 43 0 (by omega)]; exact t3 j (by omega))
      have hC3 : RepC 0 A I3 := RepC_fr hC2 g (fun k i q => b2 k i (by unfold hc at q; omega))
      refine ⟨I3, ?_, hC3, Fix_o F (fun r j _ => by rw [b2 7 r (by omega), a2 7 r (by omega), t2 7 (by decide)]), fr_tr (dC_wk t2) (fun k i q => by rw [b2 k i (fun z => q (by unfold dC; omega)), a2 k i (fun z => q (by unfold dC; omega))])⟩
      unfold woA
      simp (disch := omega) only [n_H_worth, e_H_worth_0, e_H_worth_1, e_H_worth_2, e_H_worth_3, e_H_worth_4, e_H_worth_5, e_H_worth_7, e_H_worth_8, e_H_worth_9, e_H_worth_10, s_H_within, lit, bd_s, ct_s, ct_n, nle, neq, deT, dqF, and_self, ↓reduceIte, if_true, if_false, hh, t1, a1, b1]
    · simp only [if_neg e] at hh ⊢
      exact ⟨I, by simp (disch := omega) only [n_H_worth, e_H_worth_0, e_H_worth_1, e_H_worth_2, e_H_worth_3, e_H_worth_4, e_H_worth_5, e_H_worth_6, s_H_within, lit, nad, nml, bd_s, ct_s, ct_n, a11, a01, aB2, bitA, nlt, nle, neq, dlT, dlF, deT, deF, dqT, dqF, nN, inb, nsb, ndv, nrm, if_true, if_false, ite_true, ite_false, true_and, and_true, and_self, and_false, false_and, or_true, true_or, or_false, false_or, or_self, ↓reduceIte, eq_self, Nat.reduceAdd, Nat.reduceMul, Nat.reduceSub, Nat.reduceDiv, Nat.reduceMod, Nat.zero_add, Nat.mul_zero, not_true_eq_false, not_false_eq_true, up_T, up_F, wr_T, wr_F, ngE, ngE', ngL, ngL', ngQ, ngQ', hh], hC, F, fr_rf _ _⟩
  · have hn := g.1.1
    have hh := s_M_isPath (d + 197) j A I hR g hj
    by_cases e : j < A 0 0 0
    · simp only [if_pos e] at hh ⊢
      obtain ⟨I1, t1, t2, t2', t3⟩ := s_M_findBoots (d + 194) 99 A I hR g (hzM h8)
      have hR1 : RepR 0 A I1 := RepR_o hR (by rw [t2 47 (by decide)])
      have wo := s_M_worthOf (d + 194) j k' y' (bo A 99 j) A I1 hR1 g e k0 k1 y1 (bo_b g j) (t3 j (by omega))
      refine ⟨I1, ?_, hR1, dM_fb t2, k12_ex t2' (by decide)⟩
      simp (disch := omega) only [n_M_worth, e_M_worth_0, e_M_worth_1, e_M_worth_2, e_M_worth_3, e_M_worth_4, e_M_worth_5, e_M_worth_6, e_M_worth_7, e_M_worth_8, e_M_worth_9, s_M_in, lit, nad, nml, bd_s, ct_s, ct_n, a11, a01, aB2, bitA, nlt, nle, neq, dlT, dlF, deT, deF, dqT, dqF, nN, inb, nsb, ndv, nrm, if_true, if_false, ite_true, ite_false, true_and, and_true, and_self, and_false, false_and, or_true, true_or, or_false, false_or, or_self, ↓reduceIte, eq_self, Nat.reduceAdd, Nat.reduceMul, Nat.reduceSub, Nat.reduceDiv, Nat.reduceMod, Nat.zero_add, Nat.mul_zero, not_true_eq_false, not_false_eq_true, up_T, up_F, wr_T, wr_F, ngE, ngE', ngL, ngL', ngQ, ngQ', hh, t1, wo]
    · simp only [if_neg e] at hh ⊢
      exact ⟨I, by simp (disch := omega) only [n_M_worth, e_M_worth_0, e_M_worth_1, e_M_worth_2, e_M_worth_3, e_M_worth_4, e_M_worth_5, e_M_worth_6, e_M_worth_7, e_M_worth_8, e_M_worth_9, s_M_in, lit, nad, nml, bd_s, ct_s, ct_n, a11, a01, aB2, bitA, nlt, nle, neq, dlT, dlF, deT, deF, dqT, dqF, nN, inb, nsb, ndv, nrm, if_true, if_false, ite_true, ite_false, true_and, and_true, and_self, and_false, false_and, or_true, true_or, or_false, false_or, or_self, ↓reduceIte, eq_self, Nat.reduceAdd, Nat.reduceMul, Nat.reduceSub, Nat.reduceDiv, Nat.reduceMod, Nat.zero_add, Nat.mul_zero, not_true_eq_false, not_false_eq_true, up_T, up_F, wr_T, wr_F, ngE, ngE', ngL, ngL', ngQ, ngQ', hh], hR, fr_rf _ _, k12_rf _⟩
