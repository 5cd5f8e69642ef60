/-! The rule of an owner. -/
def mtA (A : mm_A) (c : Nat) : Nat := sm (fun i => if A 1 i 0 = c ∨ A 1 i 1 = c then 1 else 0) (A 0 0 0)
theorem s_Hills_meetingAt (d c : Nat) (A : mm_A) (I : mm_I) (hC : RepC 0 A I) (g : Good A) (hc : c < 10) : Sn (d + 2) q_Hills_meetingAt [.inr (3, 0), .inl (nI c)] I = some (some (.inl (nI (mtA A c))), (sh0, I)) := by
  have hn := g.1.1
  have h1 := hC.1.1
  rw [n_Hills_meetingAt, e_Hills_meetingAt_0]
  refine lpX (n := A 0 0 0) (σ := Nat) (fun i t => Rn (d + 1) q_Hills_meetingAt 1 [some (.inr (3, 0)), some (.inl (nI c)), some (.inl (nI t)), some (.inl (nI i))] [] I) (fun i t => t = sm (fun i => if A 1 i 0 = c ∨ A 1 i 1 = c then 1 else 0) i) (fun r => r = _) (fun i t hi hV => Or.inr ⟨t + (if A 1 i 0 = c ∨ A 1 i 1 = c then 1 else 0), by rw [hV, sm], by
    have gE := (GE_of g).2 i hi
    have hm := s_Stretch_meets d i c (A 1 i) I (c0_st hC hi) gE.1 gE.2.1 hc
    by_cases w : A 1 i 0 = c ∨ A 1 i 1 = c
    · rw [if_pos w] at hm ⊢
      simp (disch := omega) only [e_Hills_meetingAt_2, e_Hills_meetingAt_3, e_Hills_meetingAt_4, e_Hills_meetingAt_5, e_Hills_meetingAt_1 (x3 := nI i), lit, nad, nml, bd_s, ct_s, ct_n, a11, a01, aB2, bitA, nlt, nle, neq, dlT, dlF, deT, deF, dqT, dqF, nN, inb, nsb, ndv, nrm, if_true, if_false, ite_true, ite_false, true_and, and_true, and_self, and_false, false_and, or_true, true_or, or_false, false_or, or_self, ↓reduceIte, eq_self, Nat.reduceAdd, Nat.reduceMul, Nat.reduceSub, Nat.reduceDiv, Nat.reduceMod, Nat.zero_add, Nat.mul_zero, not_true_eq_false, not_false_eq_true, up_T, up_F, wr_T, wr_F, ngE, ngE', ngL, ngL', ngQ, ngQ', h1, hm]
    · rw [if_neg w] at hm ⊢
      simp (disch := omega) only [e_Hills_meetingAt_2, e_Hills_meetingAt_3, e_Hills_meetingAt_4, e_Hills_meetingAt_5, e_Hills_meetingAt_1 (x3 := nI i), lit, nad, nml, bd_s, ct_s, ct_n, a11, a01, aB2, bitA, nlt, nle, neq, dlT, dlF, deT, deF, dqT, dqF, nN, inb, nsb, ndv, nrm, if_true, if_false, ite_true, ite_false, true_and, and_true, and_self, and_false, false_and, or_true, true_or, or_false, false_or, or_self, ↓reduceIte, eq_self, Nat.reduceAdd, Nat.reduceMul, Nat.reduceSub, Nat.reduceDiv, Nat.reduceMod, Nat.zero_add, Nat.mul_zero, not_true_eq_false, not_false_eq_true, up_T, up_F, wr_T, wr_F, ngE, ngE', ngL, ngL', ngQ, ngQ', h1, hm, Nat.add_zero]⟩) (fun t hV => by
      rw [hV]
      simp (disch := omega) only [e_Hills_meetingAt_1, e_Hills_meetingAt_6, lit, nad, nml, bd_s, ct_s, ct_n, a11, a01, aB2, bitA, nlt, nle, neq, dlT, dlF, deT, deF, dqT, dqF, nN, inb, nsb, ndv, nrm, if_true, if_false, ite_true, ite_false, true_and, and_true, and_self, and_false, false_and, or_true, true_or, or_false, false_or, or_self, ↓reduceIte, eq_self, Nat.reduceAdd, Nat.reduceMul, Nat.reduceSub, Nat.reduceDiv, Nat.reduceMod, Nat.zero_add, Nat.mul_zero, not_true_eq_false, not_false_eq_true, up_T, up_F, wr_T, wr_F, ngE, ngE', ngL, ngL', ngQ, ngQ', h1]
      rfl) 0 0 (Nat.zero_le _) rfl
theorem s_M_meetAt (d c : Nat) (A : mm_A) (I : mm_I) (hR : RepR 0 A I) (g : Good A) (hc : c < 10) : Sn (d + 2) q_M_meetAt [.inr (12, 0), .inl (nI c)] I = some (some (.inl (nI (mtA A c))), (sh0, I)) := by
  have hn := g.1.1
  have h1 : I 47 0 0 = nI (A 0 0 0) := hR.1 0 (by decide)
  rw [n_M_meetAt, e_M_meetAt_0]
  refine lpX (n := A 0 0 0) (σ := Nat) (fun i t => Rn (d + 1) q_M_meetAt 1 [some (.inr (12, 0)), some (.inl (nI c)), some (.inl (nI t)), some (.inl (nI i))] [] I) (fun i t => t = sm (fun i => if A 1 i 0 = c ∨ A 1 i 1 = c then 1 else 0) i) (fun r => r = _) (fun i t hi hV => Or.inr ⟨t + (if A 1 i 0 = c ∨ A 1 i 1 = c then 1 else 0), by rw [hV, sm], by
    have gE := (GE_of g).2 i hi
    have o0 := s_M_of9 d i 0 A I hR g hi (by decide)
    have o1 := s_M_of9 d i 1 A I hR g hi (by decide)
    by_cases w : A 1 i 0 = c
    · rw [if_pos (Or.inl w)]
      simp (disch := omega) only [e_M_meetAt_2, e_M_meetAt_3, e_M_meetAt_4, e_M_meetAt_5, e_M_meetAt_6, e_M_meetAt_7, e_M_meetAt_8, e_M_meetAt_1 (x3 := nI i), lit, nad, nml, bd_s, ct_s, ct_n, a11, a01, aB2, bitA, nlt, nle, neq, dlT, dlF, deT, deF, dqT, dqF, nN, inb, nsb, ndv, nrm, if_true, if_false, ite_true, ite_false, true_and, and_true, and_self, and_false, false_and, or_true, true_or, or_false, false_or, or_self, ↓reduceIte, eq_self, Nat.reduceAdd, Nat.reduceMul, Nat.reduceSub, Nat.reduceDiv, Nat.reduceMod, Nat.zero_add, Nat.mul_zero, not_true_eq_false, not_false_eq_true, up_T, up_F, wr_T, wr_F, ngE, ngE', ngL, ngL', ngQ, ngQ', h1, o0]
    · by_cases w2 : A 1 i 1 = c
      · rw [if_pos (Or.inr w2)]
        simp (disch := omega) only [e_M_meetAt_2, e_M_meetAt_3, e_M_meetAt_4, e_M_meetAt_5, e_M_meetAt_6, e_M_meetAt_7, e_M_meetAt_8, e_M_meetAt_1 (x3 := nI i), lit, nad, nml, bd_s, ct_s, ct_n, a11, a01, aB2, bitA, nlt, nle, neq, dlT, dlF, deT, deF, dqT, dqF, nN, inb, nsb, ndv, nrm, if_true, if_false, ite_true, ite_false, true_and, and_true, and_self, and_false, false_and, or_true, true_or, or_false, false_or, or_self, ↓reduceIte, eq_self, Nat.reduceAdd, Nat.reduceMul, Nat.reduceSub, Nat.reduceDiv, Nat.reduceMod, Nat.zero_add, Nat.mul_zero, not_true_eq_false, not_false_eq_true, up_T, up_F, wr_T, wr_F, ngE, ngE', ngL, ngL', ngQ, ngQ', h1, o0, o1]
      · rw [if_neg (by omega)]
        simp (disch := omega) only [e_M_meetAt_2, e_M_meetAt_3, e_M_meetAt_4, e_M_meetAt_5, e_M_meetAt_6, e_M_meetAt_7, e_M_meetAt_8, e_M_meetAt_1 (x3 := nI i), lit, nad, nml, bd_s, ct_s, ct_n, a11, a01, aB2, bitA, nlt, nle, neq, dlT, dlF, deT, deF, dqT, dqF, nN, inb, nsb, ndv, nrm, if_true, if_false, ite_true, ite_false, true_and, and_true, and_self, and_false, false_and, or_true, true_or, or_false, false_or, or_self, ↓reduceIte, eq_self, Nat.reduceAdd, Nat.reduceMul, Nat.reduceSub, Nat.reduceDiv, Nat.reduceMod, Nat.zero_add, Nat.mul_zero, not_true_eq_false, not_false_eq_true, up_T, up_F, wr_T, wr_F, ngE, ngE', ngL, ngL', ngQ, ngQ', h1, o0, o1, Nat.add_zero]⟩) (fun t hV => by
      rw [hV]
      simp (disch := omega) only [e_M_meetAt_1, e_M_meetAt_9, lit, nad, nml, bd_s, ct_s, ct_n, a11, a01, aB2, bitA, nlt, nle, neq, dlT, dlF, deT, deF, dqT, dqF, nN, inb, nsb, ndv, nrm, if_true, if_false, ite_true, ite_false, true_and, and_true, and_self, and_false, false_and, or_true, true_or, or_false, false_or, or_self, ↓reduceIte, eq_self, Nat.reduceAdd, Nat.reduceMul, Nat.reduceSub, Nat.reduceDiv, Nat.reduceMod, Nat.zero_add, Nat.mul_zero, not_true_eq_false, not_false_eq_true, up_T, up_F, wr_T, wr_F, ngE, ngE', ngL, ngL', ngQ, ngQ', h1]
      rfl) 0 0 (Nat.zero_le _) rfl
def nmA (A : mm_A) (p key : Nat) (kd : Int32) (b : Nat) (i : Nat) : Int32 := if key = 0 then (if i = 0 then kd else if i = 1 then nI (A 1 p 5) else nI (A 1 p 3)) else if key = 1 then (if i = 0 then nI (A 1 p 5) else if i = 1 then nI b else nI (A 0 0 11)) else if key = 2 then (if i = 0 then kd else if i = 1 then nI (A 1 p 2) else nI (A 1 p 4)) else (if i = 0 then hdF (A 1 p) else if i = 1 then nI (A 1 p 5) else nI (mtA A (A 1 p 0)))
def clA (v : Int32) : Int32 := if v < nI 0 then nI 0 else if nI 99999 < v then nI 99999 else v
def ruA (A : mm_A) (p key : Nat) (kd : Int32) (b : Nat) : Int32 := match tc A (A 1 p 6) key (A 0 0 2) with
  | some t => if key = 2 then clA (evS (fun k => A 3 t (5 + k)) (nmA A p key kd b) (A 3 t 4) 0) else evS (fun k => A 3 t (5 + k)) (nmA A p key kd b) (A 3 t 4) 0
  | none => if key = 0 then nI 1 else if key = 1 then nI 0 else if key = 2 then nI (10 * A 1 p 2) * (kd + nI 1) else nI (A 1 p 5) - hdF (A 1 p)
theorem cl_C (v : Int32) : (if nI 0 < (if nI 99999 ≤ v then nI 99999 else v) then (if nI 99999 ≤ v then nI 99999 else v) else nI 0) = clA v := by
  unfold clA
  have q : (nI 0 < nI 99999) = True := by rw [nlt (by decide) (by decide)]; simp
  by_cases h1 : v < nI 0
  · have h2 : ¬ nI 99999 ≤ v := fun z => absurd (Int32.lt_of_le_of_lt z h1) (by rw [nlt (by decide) (by decide)]; decide)
    have h3 : ¬ nI 0 < v := fun z => Int32.lt_irrefl (Int32.lt_trans h1 z)
    simp only [h1, h2, h3, if_true, if_false]
  · by_cases h2 : nI 99999 < v
    · have h3 : nI 99999 ≤ v := Int32.le_of_lt h2
      simp only [h1, h2, h3, q, if_true, if_false]
    · by_cases h3 : nI 99999 ≤ v
      · have h4 : v = nI 99999 := Int32.le_antisymm (Int32.not_lt.mp h2) h3
        rw [h4]
        simp only [Int32.le_refl, q, if_true, Int32.lt_irrefl, if_false, show (nI 99999 < nI 0) = False by rw [nlt (by decide) (by decide)]; simp]
      · by_cases h4 : nI 0 < v
        · simp only [h1, h2, h3, h4, if_true, if_false]
        · have h5 : v = nI 0 := Int32.le_antisymm (Int32.not_lt.mp h4) (Int32.not_lt.mp h1)
          subst h5
          simp only [h1, h2, h3, if_false]
theorem cl_M (v : Int32) : (if (if nI 99999 < v then nI 99999 else v) < nI 0 then nI 0 else (if nI 99999 < v then nI 99999 else v)) = clA v := by
  unfold clA
  by_cases h2 : nI 99999 < v
  · have h1 : ¬ v < nI 0 := fun z => absurd (Int32.lt_trans h2 z) (by rw [nlt (by decide) (by decide)]; decide)
    simp only [h1, h2, if_true, if_false, show (nI 99999 < nI 0) = False by rw [nlt (by decide) (by decide)]; simp]
  · simp only [h2, if_false]
theorem s_H_giveNames (d p key b : Nat) (kd : Int32) (A : mm_A) (I : mm_I) (hC : RepC 0 A I) (g : Good A) (hp : p < A 0 0 0) (hk : key ≤ 3) (hb : key = 1 → I 43 0 p = nI b) : ∃ I', Sn (d + 3) q_H_giveNames [.inr (11, 0), .inl (nI p), .inl (nI key), .inl kd] I = some (none, (sh0, I')) ∧ eqo [44] I I' ∧ ∀ i, i < 3 → I' 44 0 i = nmA A p key kd b i := by
  have hn := g.1.1
  have gs := stG g hp
  have gE := (GE_of g).2 p hp
  obtain ⟨h0, h1, h2, h3, h4, h5, h6, h7, h8⟩ := c0_st hC hp
  have fin : ∀ x y z : Int32, (Sn (d + 3) q_H_giveNames [.inr (11, 0), .inl (nI p), .inl (nI key), .inl kd] I = some (none, (sh0, mm_up (mm_up (mm_up I 44 0 0 x) 44 0 1 y) 44 0 2 z))) → x = nmA A p key kd b 0 → y = nmA A p key kd b 1 → z = nmA A p key kd b 2 → ∃ I', Sn (d + 3) q_H_giveNames [.inr (11, 0), .inl (nI p), .inl (nI key), .inl kd] I = some (none, (sh0, I')) ∧ eqo [44] I I' ∧ ∀ i, i < 3 → I' 44 0 i = nmA A p key kd b i := by
    intro x y z q e0 e1 e2
    refine ⟨_, q, eqo_up (eqo_up (eqo_up (eqo_rf _ _) (by decide)) (by decide)) (by decide), fun i hi => ?_⟩
    rcases (show i = 0 ∨ i = 1 ∨ i = 2 by omega) with w | w | w <;> subst w
    · rw [up_F (by omega), up_F (by omega), up_s]; exact e0
    · rw [up_F (by omega), up_s]; exact e1
    · rw [up_s]; exact e2
  rcases (show key = 0 ∨ key = 1 ∨ key = 2 ∨ key = 3 by omega) with e | e | e | e <;> subst e
  · exact fin kd (nI (A 1 p 5)) (nI (A 1 p 3)) (by simp (disch := omega) only [n_H_giveNames, e_H_giveNames_0, e_H_giveNames_1, e_H_giveNames_2, e_H_giveNames_10, n_H_fillNames, e_H_fillNames_0, lit, nad, nml, bd_s, ct_s, ct_n, a11, a01, aB2, bitA, nlt, nle, neq, dlT, dlF, deT, deF, dqT, dqF, nN, inb, nsb, ndv, nrm, if_true, if_false, ite_true, ite_false, true_and, and_true, and_self, and_false, false_and, or_true, true_or, or_false, false_or, or_self, ↓reduceIte, eq_self, Nat.reduceAdd, Nat.reduceMul, Nat.reduceSub, Nat.reduceDiv, Nat.reduceMod, Nat.zero_add, Nat.mul_zero, not_true_eq_false, not_false_eq_true, up_T, up_F, wr_T, wr_F, ngE, ngE', ngL, ngL', ngQ, ngQ', h5, h3]) rfl rfl rfl
  · have hb' := hb rfl
    have hy := hC.1.2.2.2.2
    exact fin (nI (A 1 p 5)) (nI b) (nI (A 0 0 11)) (by simp (disch := omega) only [n_H_giveNames, e_H_giveNames_0, e_H_giveNames_3, e_H_giveNames_4, e_H_giveNames_10, n_H_fillNames, e_H_fillNames_0, lit, nad, nml, bd_s, ct_s, ct_n, a11, a01, aB2, bitA, nlt, nle, neq, dlT, dlF, deT, deF, dqT, dqF, nN, inb, nsb, ndv, nrm, if_true, if_false, ite_true, ite_false, true_and, and_true, and_self, and_false, false_and, or_true, true_or, or_false, false_or, or_self, ↓reduceIte, eq_self, Nat.reduceAdd, Nat.reduceMul, Nat.reduceSub, Nat.reduceDiv, Nat.reduceMod, Nat.zero_add, Nat.mul_zero, not_true_eq_false, not_false_eq_true, up_T, up_F, wr_T, wr_F, ngE, ngE', ngL, ngL', ngQ, ngQ', h5, hb', hy]) rfl rfl rfl
  · exact fin kd (nI (A 1 p 2)) (nI (A 1 p 4)) (by simp (disch := omega) only [n_H_giveNames, e_H_giveNames_0, e_H_giveNames_5, e_H_giveNames_6, e_H_giveNames_10, n_H_fillNames, e_H_fillNames_0, lit, nad, nml, bd_s, ct_s, ct_n, a11, a01, aB2, bitA, nlt, nle, neq, dlT, dlF, deT, deF, dqT, dqF, nN, inb, nsb, ndv, nrm, if_true, if_false, ite_true, ite_false, true_and, and_true, and_self, and_false, false_and, or_true, true_or, or_false, false_or, or_self, ↓reduceIte, eq_self, Nat.reduceAdd, Nat.reduceMul, Nat.reduceSub, Nat.reduceDiv, Nat.reduceMod, Nat.zero_add, Nat.mul_zero, not_true_eq_false, not_false_eq_true, up_T, up_F, wr_T, wr_F, ngE, ngE', ngL, ngL', ngQ, ngQ', h2, h4]) rfl rfl rfl
  · have ho := s_Stretch_holds d p (A 1 p) I (c0_st hC hp) gs
    have hm := s_Hills_meetingAt d (A 1 p 0) A I hC g gE.1
    exact fin (hdF (A 1 p)) (nI (A 1 p 5)) (nI (mtA A (A 1 p 0))) (by simp (disch := omega) only [n_H_giveNames, e_H_giveNames_0, e_H_giveNames_7, e_H_giveNames_8, e_H_giveNames_9, e_H_giveNames_10, n_H_fillNames, e_H_fillNames_0, lit, nad, nml, bd_s, ct_s, ct_n, a11, a01, aB2, bitA, nlt, nle, neq, dlT, dlF, deT, deF, dqT, dqF, nN, inb, nsb, ndv, nrm, if_true, if_false, ite_true, ite_false, true_and, and_true, and_self, and_false, false_and, or_true, true_or, or_false, false_or, or_self, ↓reduceIte, eq_self, Nat.reduceAdd, Nat.reduceMul, Nat.reduceSub, Nat.reduceDiv, Nat.reduceMod, Nat.zero_add, Nat.mul_zero, not_true_eq_false, not_false_eq_true, up_T, up_F, wr_T, wr_F, ngE, ngE', ngL, ngL', ngQ, ngQ', h5, h0, ho, hm]) rfl rfl rfl
theorem RepC_39 {A : mm_A} {I I' : mm_I} {ks : List Nat} (hC : RepC 0 A I) (g : Good A) (e : eqo ks I I') (hk : ∀ k ∈ ks, k = 39 ∨ k = 44 ∨ k = 45) : RepC 0 A I' := RepC_fr hC g (fun k i q => by
  rw [e k]
  intro z
  have := hk k z
  unfold hc at q
  omega)
theorem s_H_ruled (d p key b : Nat) (kd : Int32) (A : mm_A) (I : mm_I) (hC : RepC 0 A I) (g : Good A) (hp : p < A 0 0 0) (hk : key ≤ 3) (hb : key = 1 → I 43 0 p = nI b) : ∃ I', Sn (d + 4) q_H_ruled [.inr (11, 0), .inl (nI p), .inl (nI key), .inl kd] I = some (some (.inl (ruA A p key kd b)), (sh0, I')) ∧ eqo [39, 44] I I' := by
  have hn := g.1.1
  have hX := g.1.2.1
  have gs := stG g hp
  obtain ⟨h0, h1, h2, h3, h4, h5, h6, h7, h8⟩ := c0_st hC hp
  have hO := gs.2.2.2.2.2.2.2.2.2.1
  have ht := s_H_textThatCounts (d + 2) (A 1 p 6) key A I hC g hO hk
  unfold ruA
  cases e : tc A (A 1 p 6) key (A 0 0 2) with
  | none =>
    rw [e] at ht
    refine ⟨I, ?_, eqo_rf _ _⟩
    rcases (show key = 0 ∨ key = 1 ∨ key = 2 ∨ key = 3 by omega) with w | w | w | w <;> subst w
    · simp (disch := omega) only [n_H_ruled, e_H_ruled_0, e_H_ruled_1, e_H_ruled_2, e_H_ruled_3, e_H_ruled_4, e_H_ruled_5, e_H_ruled_6, e_H_ruled_7, e_H_ruled_8, e_H_ruled_9, n_H_withoutText, e_H_withoutText_0, e_H_withoutText_1, e_H_withoutText_2, e_H_withoutText_3, e_H_withoutText_4, e_H_withoutText_5, lit, nad, nml, bd_s, ct_s, ct_n, a11, a01, aB2, bitA, nlt, nle, neq, dlT, dlF, deT, deF, dqT, dqF, nN, inb, nsb, ndv, nrm, if_true, if_false, ite_true, ite_false, true_and, and_true, and_self, and_false, false_and, or_true, true_or, or_false, false_or, or_self, ↓reduceIte, eq_self, Nat.reduceAdd, Nat.reduceMul, Nat.reduceSub, Nat.reduceDiv, Nat.reduceMod, Nat.zero_add, Nat.mul_zero, not_true_eq_false, not_false_eq_true, up_T, up_F, wr_T, wr_F, ngE, ngE', ngL, ngL', ngQ, ngQ', h6, ht, fvC]
    · simp (disch := omega) only [n_H_ruled, e_H_ruled_0, e_H_ruled_1, e_H_ruled_2, e_H_ruled_3, e_H_ruled_4, e_H_ruled_5, e_H_ruled_6, e_H_ruled_7, e_H_ruled_8, e_H_ruled_9, n_H_withoutText, e_H_withoutText_0, e_H_withoutText_1, e_H_withoutText_2, e_H_withoutText_3, e_H_withoutText_4, e_H_withoutText_5, lit, nad, nml, bd_s, ct_s, ct_n, a11, a01, aB2, bitA, nlt, nle, neq, dlT, dlF, deT, deF, dqT, dqF, nN, inb, nsb, ndv, nrm, if_true, if_false, ite_true, ite_false, true_and, and_true, and_self, and_false, false_and, or_true, true_or, or_false, false_or, or_self, ↓reduceIte, eq_self, Nat.reduceAdd, Nat.reduceMul, Nat.reduceSub, Nat.reduceDiv, Nat.reduceMod, Nat.zero_add, Nat.mul_zero, not_true_eq_false, not_false_eq_true, up_T, up_F, wr_T, wr_F, ngE, ngE', ngL, ngL', ngQ, ngQ', h6, ht, fvC]
    · simp (disch := omega) only [n_H_ruled, e_H_ruled_0, e_H_ruled_1, e_H_ruled_2, e_H_ruled_3, e_H_ruled_4, e_H_ruled_5, e_H_ruled_6, e_H_ruled_7, e_H_ruled_8, e_H_ruled_9, n_H_withoutText, e_H_withoutText_0, e_H_withoutText_1, e_H_withoutText_2, e_H_withoutText_3, e_H_withoutText_4, e_H_withoutText_5, lit, nad, nml, bd_s, ct_s, ct_n, a11, a01, aB2, bitA, nlt, nle, neq, dlT, dlF, deT, deF, dqT, dqF, nN, inb, nsb, ndv, nrm, if_true, if_false, ite_true, ite_false, true_and, and_true, and_self, and_false, false_and, or_true, true_or, or_false, false_or, or_self, ↓reduceIte, eq_self, Nat.reduceAdd, Nat.reduceMul, Nat.reduceSub, Nat.reduceDiv, Nat.reduceMod, Nat.zero_add, Nat.mul_zero, not_true_eq_false, not_false_eq_true, up_T, up_F, wr_T, wr_F, ngE, ngE', ngL, ngL', ngQ, ngQ', h6, h2, ht, fvC]
    · have ho := s_Stretch_holds d p (A 1 p) I (c0_st hC hp) gs
      simp (disch := omega) only [n_H_ruled, e_H_ruled_0, e_H_ruled_1, e_H_ruled_2, e_H_ruled_3, e_H_ruled_4, e_H_ruled_5, e_H_ruled_6, e_H_ruled_7, e_H_ruled_8, e_H_ruled_9, n_H_withoutText, e_H_withoutText_0, e_H_withoutText_1, e_H_withoutText_2, e_H_withoutText_3, e_H_withoutText_4, e_H_withoutText_5, lit, nad, nml, bd_s, ct_s, ct_n, a11, a01, aB2, bitA, nlt, nle, neq, dlT, dlF, deT, deF, dqT, dqF, nN, inb, nsb, ndv, nrm, if_true, if_false, ite_true, ite_false, true_and, and_true, and_self, and_false, false_and, or_true, true_or, or_false, false_or, or_self, ↓reduceIte, eq_self, Nat.reduceAdd, Nat.reduceMul, Nat.reduceSub, Nat.reduceDiv, Nat.reduceMod, Nat.zero_add, Nat.mul_zero, not_true_eq_false, not_false_eq_true, up_T, up_F, wr_T, wr_F, ngE, ngE', ngL, ngL', ngQ, ngQ', h6, h5, ht, ho, fvC]
  | some t =>
    rw [e] at ht
    have htl := tc_lt e
    obtain ⟨I1, a1, a2, a3⟩ := s_H_giveNames d p key b kd A I hC g hp hk hb
    have hC1 := RepC_39 hC g a2 (by decide)
    obtain ⟨t1, t2, t3, t4, t5, t6⟩ := hC1.2.2.2.2.1 t htl
    obtain ⟨g1, g2, g3, g4, g5, g6, g7⟩ := txG g htl
    obtain ⟨I2, b1, b2⟩ := s_Text_workOut (d + 1) t (A 3 t 4) (fun k => A 3 t (5 + k)) (nmA A p key kd b) I1 t5 g5 t6 a3 (okH_of g6 g7)
    refine ⟨I2, ?_, eqo_tr (eqo_mono a2 (by decide)) (eqo_mono b2 (by decide))⟩
    by_cases w : key = 2
    · subst w
      simp (disch := omega) only [n_H_ruled, e_H_ruled_0, e_H_ruled_1, e_H_ruled_2, e_H_ruled_3, e_H_ruled_4, e_H_ruled_5, e_H_ruled_6, e_H_ruled_7, e_H_ruled_8, e_H_ruled_9, lit, nad, nml, bd_s, ct_s, ct_n, a11, a01, aB2, bitA, nlt, nle, neq, dlT, dlF, deT, deF, dqT, dqF, nN, inb, nsb, ndv, nrm, if_true, if_false, ite_true, ite_false, true_and, and_true, and_self, and_false, false_and, or_true, true_or, or_false, false_or, or_self, ↓reduceIte, eq_self, Nat.reduceAdd, Nat.reduceMul, Nat.reduceSub, Nat.reduceDiv, Nat.reduceMod, Nat.zero_add, Nat.mul_zero, not_true_eq_false, not_false_eq_true, up_T, up_F, wr_T, wr_F, ngE, ngE', ngL, ngL', ngQ, ngQ', h6, ht, fvC, a1, b1, cl_C]
    · simp (disch := omega) only [n_H_ruled, e_H_ruled_0, e_H_ruled_1, e_H_ruled_2, e_H_ruled_3, e_H_ruled_4, e_H_ruled_5, e_H_ruled_6, e_H_ruled_7, e_H_ruled_8, e_H_ruled_9, lit, nad, nml, bd_s, ct_s, ct_n, a11, a01, aB2, bitA, nlt, nle, neq, dlT, dlF, deT, deF, dqT, dqF, nN, inb, nsb, ndv, nrm, if_true, if_false, ite_true, ite_false, true_and, and_true, and_self, and_false, false_and, or_true, true_or, or_false, false_or, or_self, ↓reduceIte, eq_self, Nat.reduceAdd, Nat.reduceMul, Nat.reduceSub, Nat.reduceDiv, Nat.reduceMod, Nat.zero_add, Nat.mul_zero, not_true_eq_false, not_false_eq_true, up_T, up_F, wr_T, wr_F, ngE, ngE', ngL, ngL', ngQ, ngQ', h6, ht, fvC, a1, b1]
theorem s_M_facts (d p key b : Nat) (kd : Int32) (A : mm_A) (I : mm_I) (hR : RepR 0 A I) (g : Good A) (hp : p < A 0 0 0) (hk : key ≤ 3) (hb : key = 1 → I 51 0 p = nI b) : Sn (d + 6) q_M_ruled [.inr (12, 0), .inl (nI p), .inl (nI key), .inl kd] I = (Sn (d + 5) q_M_counts [.inr (12, 0), .inl (nI (A 1 p 6)), .inl (nI key)] (mm_up (mm_up (mm_up I 57 0 0 (nmA A p key kd b 0)) 57 0 1 (nmA A p key kd b 1)) 57 0 2 (nmA A p key kd b 2))).bind (mm_cont (fun ls st μ => mm_l PP (mm_S PP NN (d + 5)) q_M_ruled 26 ls st μ) [some (.inr (12, 0)), some (.inl (nI p)), some (.inl (nI key)), some (.inl kd), some (.inl (nI (A 1 p 5))), some (.inl (nI (A 1 p 2))), none, none] []) := by
  have hn := g.1.1
  have gs := stG g hp
  have gE := (GE_of g).2 p hp
  have st := fun c (hc : c < 9) (W : mm_I) (hW : W 47 0 = I 47 0) => s_M_of9 (d + 4) p c A W (RepR_o hR hW) g hp hc
  have s5 := st 5 (by decide) I rfl
  have s2 := st 2 (by decide) I rfl
  have u1 : ∀ x : Int32, (mm_up I 57 0 0 x) 47 0 = I 47 0 := fun x => by funext j; simp (disch := omega) only [up_F]
  have u2 : ∀ x y : Int32, (mm_up (mm_up I 57 0 0 x) 57 0 1 y) 47 0 = I 47 0 := fun x y => by funext j; simp (disch := omega) only [up_F]
  have u3 : ∀ x y z : Int32, (mm_up (mm_up (mm_up I 57 0 0 x) 57 0 1 y) 57 0 2 z) 47 0 = I 47 0 := fun x y z => by funext j; simp (disch := omega) only [up_F]
  have s6 := fun x y z => st 6 (by decide) _ (u3 x y z)
  rcases (show key = 0 ∨ key = 1 ∨ key = 2 ∨ key = 3 by omega) with e | e | e | e <;> subst e
  · have s3 := fun x y => st 3 (by decide) _ (u2 x y)
    simp (disch := omega) only [n_M_ruled, e_M_ruled_0, e_M_ruled_1, e_M_ruled_2, e_M_ruled_4, e_M_ruled_7, e_M_ruled_8, e_M_ruled_10, e_M_ruled_14, e_M_ruled_15, e_M_ruled_16, e_M_ruled_24, e_M_ruled_25, lit, nad, nml, bd_s, ct_s, ct_n, a11, a01, aB2, bitA, nlt, nle, neq, dlT, dlF, deT, deF, dqT, dqF, nN, inb, nsb, ndv, nrm, if_true, if_false, ite_true, ite_false, true_and, and_true, and_self, and_false, false_and, or_true, true_or, or_false, false_or, or_self, ↓reduceIte, eq_self, Nat.reduceAdd, Nat.reduceMul, Nat.reduceSub, Nat.reduceDiv, Nat.reduceMod, Nat.zero_add, Nat.mul_zero, not_true_eq_false, not_false_eq_true, up_T, up_F, wr_T, wr_F, ngE, ngE', ngL, ngL', ngQ, ngQ', s5, s2, s3, s6, nmA]
  · have hb' := hb rfl
    have hy : I 47 0 11 = nI (A 0 0 11) := hR.1 11 (by decide)
    simp (disch := omega) only [n_M_ruled, e_M_ruled_0, e_M_ruled_1, e_M_ruled_2, e_M_ruled_3, e_M_ruled_8, e_M_ruled_9, e_M_ruled_11, e_M_ruled_12, e_M_ruled_14, e_M_ruled_17, e_M_ruled_18, e_M_ruled_24, e_M_ruled_25, lit, nad, nml, bd_s, ct_s, ct_n, a11, a01, aB2, bitA, nlt, nle, neq, dlT, dlF, deT, deF, dqT, dqF, nN, inb, nsb, ndv, nrm, if_true, if_false, ite_true, ite_false, true_and, and_true, and_self, and_false, false_and, or_true, true_or, or_false, false_or, or_self, ↓reduceIte, eq_self, Nat.reduceAdd, Nat.reduceMul, Nat.reduceSub, Nat.reduceDiv, Nat.reduceMod, Nat.zero_add, Nat.mul_zero, not_true_eq_false, not_false_eq_true, up_T, up_F, wr_T, wr_F, ngE, ngE', ngL, ngL', ngQ, ngQ', s5, s2, s6, hb', hy, nmA]
  · have s4 := fun x y => st 4 (by decide) _ (u2 x y)
    simp (disch := omega) only [n_M_ruled, e_M_ruled_0, e_M_ruled_1, e_M_ruled_2, e_M_ruled_4, e_M_ruled_7, e_M_ruled_8, e_M_ruled_9, e_M_ruled_11, e_M_ruled_13, e_M_ruled_14, e_M_ruled_17, e_M_ruled_19, e_M_ruled_20, e_M_ruled_21, e_M_ruled_24, e_M_ruled_25, lit, nad, nml, bd_s, ct_s, ct_n, a11, a01, aB2, bitA, nlt, nle, neq, dlT, dlF, deT, deF, dqT, dqF, nN, inb, nsb, ndv, nrm, if_true, if_false, ite_true, ite_false, true_and, and_true, and_self, and_false, false_and, or_true, true_or, or_false, false_or, or_self, ↓reduceIte, eq_self, Nat.reduceAdd, Nat.reduceMul, Nat.reduceSub, Nat.reduceDiv, Nat.reduceMod, Nat.zero_add, Nat.mul_zero, not_true_eq_false, not_false_eq_true, up_T, up_F, wr_T, wr_F, ngE, ngE', ngL, ngL', ngQ, ngQ', s5, s2, s4, s6, nmA]
  · have ho := s_M_holdsOf (d + 1) p A I hR g hp
    have s0 := fun x y => st 0 (by decide) _ (u2 x y)
    have hm := fun x y => s_M_meetAt (d + 3) (A 1 p 0) A _ (RepR_o hR (u2 x y)) g gE.1
    simp (disch := omega) only [n_M_ruled, e_M_ruled_0, e_M_ruled_1, e_M_ruled_2, e_M_ruled_4, e_M_ruled_5, e_M_ruled_6, e_M_ruled_8, e_M_ruled_9, e_M_ruled_10, e_M_ruled_14, e_M_ruled_17, e_M_ruled_19, e_M_ruled_22, e_M_ruled_23, e_M_ruled_24, e_M_ruled_25, lit, nad, nml, bd_s, ct_s, ct_n, a11, a01, aB2, bitA, nlt, nle, neq, dlT, dlF, deT, deF, dqT, dqF, nN, inb, nsb, ndv, nrm, if_true, if_false, ite_true, ite_false, true_and, and_true, and_self, and_false, false_and, or_true, true_or, or_false, false_or, or_self, ↓reduceIte, eq_self, Nat.reduceAdd, Nat.reduceMul, Nat.reduceSub, Nat.reduceDiv, Nat.reduceMod, Nat.zero_add, Nat.mul_zero, not_true_eq_false, not_false_eq_true, up_T, up_F, wr_T, wr_F, ngE, ngE', ngL, ngL', ngQ, ngQ', s5, s2, ho, s0, hm, s6, nmA]
theorem s_M_ruled (d p key b : Nat) (kd : Int32) (A : mm_A) (I : mm_I) (hR : RepR 0 A I) (g : Good A) (hp : p < A 0 0 0) (hk : key ≤ 3) (hb : key = 1 → I 51 0 p = nI b) : ∃ I', Sn (d + 6) q_M_ruled [.inr (12, 0), .inl (nI p), .inl (nI key), .inl kd] I = some (some (.inl (ruA A p key kd b)), (sh0, I')) ∧ eqo [56, 57] I I' := by
  have hX := g.1.2.1
  have gs := stG g hp
  have hO := gs.2.2.2.2.2.2.2.2.2.1
  rw [s_M_facts d p key b kd A I hR g hp hk hb]
  have hW : (mm_up (mm_up (mm_up I 57 0 0 (nmA A p key kd b 0)) 57 0 1 (nmA A p key kd b 1)) 57 0 2 (nmA A p key kd b 2)) 47 0 = I 47 0 := by funext j; simp (disch := omega) only [up_F]
  have eW : eqo [56, 57] I (mm_up (mm_up (mm_up I 57 0 0 (nmA A p key kd b 0)) 57 0 1 (nmA A p key kd b 1)) 57 0 2 (nmA A p key kd b 2)) := eqo_up (eqo_up (eqo_up (eqo_rf _ _) (by decide)) (by decide)) (by decide)
  have aW : ∀ i, i < 3 → (mm_up (mm_up (mm_up I 57 0 0 (nmA A p key kd b 0)) 57 0 1 (nmA A p key kd b 1)) 57 0 2 (nmA A p key kd b 2)) 57 0 i = nmA A p key kd b i := fun i hi => by
    rcases (show i = 0 ∨ i = 1 ∨ i = 2 by omega) with w | w | w <;> subst w <;> simp (disch := omega) only [up_T, up_F]
  generalize mm_up (mm_up (mm_up I 57 0 0 (nmA A p key kd b 0)) 57 0 1 (nmA A p key kd b 1)) 57 0 2 (nmA A p key kd b 2) = W at *
  have hRW : RepR 0 A W := RepR_o hR hW
  have ht := s_M_counts (d + 4) (A 1 p 6) key A W hRW g hO hk
  rw [ht, bd_s, ct_s]
  unfold ruA
  cases e : tc A (A 1 p 6) key (A 0 0 2) with
  | none =>
    refine ⟨W, ?_, eW⟩
    have hq : (-nI 1 < nI 0) = True := ngL' (by decide) (by decide) (by decide)
    rcases (show key = 0 ∨ key = 1 ∨ key = 2 ∨ key = 3 by omega) with w | w | w | w <;> subst w
    · simp (disch := omega) only [e_M_ruled_26, e_M_ruled_34, e_M_ruled_35, e_M_ruled_42, lit, nad, nml, bd_s, ct_s, ct_n, a11, a01, aB2, bitA, nlt, nle, neq, dlT, dlF, deT, deF, dqT, dqF, nN, inb, nsb, ndv, nrm, if_true, if_false, ite_true, ite_false, true_and, and_true, and_self, and_false, false_and, or_true, true_or, or_false, false_or, or_self, ↓reduceIte, eq_self, Nat.reduceAdd, Nat.reduceMul, Nat.reduceSub, Nat.reduceDiv, Nat.reduceMod, Nat.zero_add, Nat.mul_zero, not_true_eq_false, not_false_eq_true, up_T, up_F, wr_T, wr_F, ngE, ngE', ngL, ngL', ngQ, ngQ', fvM, hq]
    · simp (disch := omega) only [e_M_ruled_26, e_M_ruled_34, e_M_ruled_36, e_M_ruled_37, e_M_ruled_42, lit, nad, nml, bd_s, ct_s, ct_n, a11, a01, aB2, bitA, nlt, nle, neq, dlT, dlF, deT, deF, dqT, dqF, nN, inb, nsb, ndv, nrm, if_true, if_false, ite_true, ite_false, true_and, and_true, and_self, and_false, false_and, or_true, true_or, or_false, false_or, or_self, ↓reduceIte, eq_self, Nat.reduceAdd, Nat.reduceMul, Nat.reduceSub, Nat.reduceDiv, Nat.reduceMod, Nat.zero_add, Nat.mul_zero, not_true_eq_false, not_false_eq_true, up_T, up_F, wr_T, wr_F, ngE, ngE', ngL, ngL', ngQ, ngQ', fvM, hq]
    · simp (disch := omega) only [e_M_ruled_26, e_M_ruled_34, e_M_ruled_36, e_M_ruled_38, e_M_ruled_39, e_M_ruled_42, lit, nad, nml, bd_s, ct_s, ct_n, a11, a01, aB2, bitA, nlt, nle, neq, dlT, dlF, deT, deF, dqT, dqF, nN, inb, nsb, ndv, nrm, if_true, if_false, ite_true, ite_false, true_and, and_true, and_self, and_false, false_and, or_true, true_or, or_false, false_or, or_self, ↓reduceIte, eq_self, Nat.reduceAdd, Nat.reduceMul, Nat.reduceSub, Nat.reduceDiv, Nat.reduceMod, Nat.zero_add, Nat.mul_zero, not_true_eq_false, not_false_eq_true, up_T, up_F, wr_T, wr_F, ngE, ngE', ngL, ngL', ngQ, ngQ', fvM, hq]
    · have ho := s_M_holdsOf (d + 1) p A W hRW g hp
      simp (disch := omega) only [e_M_ruled_26, e_M_ruled_34, e_M_ruled_36, e_M_ruled_38, e_M_ruled_40, e_M_ruled_41, e_M_ruled_42, lit, nad, nml, bd_s, ct_s, ct_n, a11, a01, aB2, bitA, nlt, nle, neq, dlT, dlF, deT, deF, dqT, dqF, nN, inb, nsb, ndv, nrm, if_true, if_false, ite_true, ite_false, true_and, and_true, and_self, and_false, false_and, or_true, true_or, or_false, false_or, or_self, ↓reduceIte, eq_self, Nat.reduceAdd, Nat.reduceMul, Nat.reduceSub, Nat.reduceDiv, Nat.reduceMod, Nat.zero_add, Nat.mul_zero, not_true_eq_false, not_false_eq_true, up_T, up_F, wr_T, wr_F, ngE, ngE', ngL, ngL', ngQ, ngQ', fvM, hq, ho]
  | some t =>
    have htl := tc_lt e
    obtain ⟨t1, t2, t3, t4, t5⟩ := hRW.2.2.2.1 t htl
    obtain ⟨g1, g2, g3, g4, g5, g6, g7⟩ := txG g htl
    obtain ⟨I2, b1, b2⟩ := s_M_worksOut (d + 3) t (A 3 t 4) (A 3 t 0) (fun k => A 3 t (5 + k)) (nmA A p key kd b) W t1 (by omega) g1 g5 t5 aW (okH_of g6 g7)
    refine ⟨I2, ?_, eqo_tr eW (eqo_mono b2 (by decide))⟩
    by_cases w : key = 2
    · subst w
      simp (disch := omega) only [e_M_ruled_26, e_M_ruled_27, e_M_ruled_28, e_M_ruled_29, e_M_ruled_30, e_M_ruled_31, e_M_ruled_33, lit, nad, nml, bd_s, ct_s, ct_n, a11, a01, aB2, bitA, nlt, nle, neq, dlT, dlF, deT, deF, dqT, dqF, nN, inb, nsb, ndv, nrm, if_true, if_false, ite_true, ite_false, true_and, and_true, and_self, and_false, false_and, or_true, true_or, or_false, false_or, or_self, ↓reduceIte, eq_self, Nat.reduceAdd, Nat.reduceMul, Nat.reduceSub, Nat.reduceDiv, Nat.reduceMod, Nat.zero_add, Nat.mul_zero, not_true_eq_false, not_false_eq_true, up_T, up_F, wr_T, wr_F, ngE, ngE', ngL, ngL', ngQ, ngQ', fvM, b1, s_M_lesser, s_M_greater, cl_M]
    · simp (disch := omega) only [e_M_ruled_26, e_M_ruled_27, e_M_ruled_28, e_M_ruled_32, e_M_ruled_33, lit, nad, nml, bd_s, ct_s, ct_n, a11, a01, aB2, bitA, nlt, nle, neq, dlT, dlF, deT, deF, dqT, dqF, nN, inb, nsb, ndv, nrm, if_true, if_false, ite_true, ite_false, true_and, and_true, and_self, and_false, false_and, or_true, true_or, or_false, false_or, or_self, ↓reduceIte, eq_self, Nat.reduceAdd, Nat.reduceMul, Nat.reduceSub, Nat.reduceDiv, Nat.reduceMod, Nat.zero_add, Nat.mul_zero, not_true_eq_false, not_false_eq_true, up_T, up_F, wr_T, wr_F, ngE, ngE', ngL, ngL', ngQ, ngQ', fvM, b1]
