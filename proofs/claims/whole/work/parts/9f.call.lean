/-! text, the call. -/
def tW4 (I : mm_I) (m : Nat) (c0 x1 x2 c3 : Int32) : mm_I := mm_up (mm_up (mm_up (mm_up I 47 0 (541 + 4 * m) c0) 47 0 (541 + 4 * m + 1) x1) 47 0 (541 + 4 * m + 2) x2) 47 0 (541 + 4 * m + 3) c3
theorem x_M_text16 (d m k l a : Nat) (x1 x2 : Int32) (I : mm_I) (h2 : I 47 0 2 = nI m) (hm : m < 14) (h17 : I 12 0 17 = nI k) (hk : k < 4) (h21 : I 12 0 21 = nI l) (hl : l ≤ 96) (h22 : I 12 0 22 = nI a) (ha : a ≤ 96) : Rn d q_M_text 14 [some (.inr (12, 0)), some (.inl x1), some (.inl x2), some (.inl (nI 1)), none, none] [] I = Rn d q_M_text 17 [some (.inr (12, 0)), some (.inl x1), some (.inl x2), some (.inl (nI 1)), some (.inl (nI m)), some (.inl (nI 0))] [] (tW4 I m (nI (1000 * k + l)) x1 x2 (nI a)) := by
  have e14 : Rn d q_M_text 14 [some (.inr (12, 0)), some (.inl x1), some (.inl x2), some (.inl (nI 1)), none, none] [] I = Rn d q_M_text 16 [some (.inr (12, 0)), some (.inl x1), some (.inl x2), some (.inl (nI 1)), none, none] [] I := by
    rw [e_M_text_14, if_pos (by decide), show (2 : Int32).toInt.toNat = 2 from rfl, h2, if_neg (by rw [show (14 : Int32) = nI 14 from rfl, neq (by omega) (by omega)]; omega)]
  rw [e14]
  unfold tW4
  simp (disch := omega) only [e_M_text_16, lit, nad, nml, bd_s, ct_s, ct_n, a11, a01, aB2, bitA, nlt, nle, neq, dlT, dlF, deT, deF, dqT, dqF, nN, inb, nsb, ndv, nrm, if_true, if_false, ite_true, ite_false, true_and, and_true, and_self, and_false, false_and, or_true, true_or, or_false, false_or, or_self, ↓reduceIte, eq_self, Nat.reduceAdd, Nat.reduceMul, Nat.reduceSub, Nat.reduceDiv, Nat.reduceMod, Nat.zero_add, Nat.mul_zero, not_true_eq_false, not_false_eq_true, up_T, up_F, wr_T, wr_F, ngE, ngE', ngL, ngL', ngQ, ngQ', h2, h17, h21, h22]
theorem s_M_textW (d m k l a : Nat) (x1 x2 : Int32) (I : mm_I) (h2 : I 47 0 2 = nI m) (hm : m < 14) (h17 : I 12 0 17 = nI k) (hk : k < 4) (h21 : I 12 0 21 = nI l) (hl : l ≤ 96) (h22 : I 12 0 22 = nI a) (ha : a ≤ 96) : ∃ I', Rn d q_M_text 14 [some (.inr (12, 0)), some (.inl x1), some (.inl x2), some (.inl (nI 1)), none, none] [] I = some (some (.inl (nI m)), (sh0, I')) ∧ eqo [47] I I' ∧ (∀ i, i ≠ 0 → I' 47 i = I 47 i) ∧ I' 47 0 2 = nI (m + 1) ∧ I' 47 0 (541 + 4 * m) = nI (1000 * k + l) ∧ I' 47 0 (541 + 4 * m + 1) = x1 ∧ I' 47 0 (541 + 4 * m + 2) = x2 ∧ I' 47 0 (541 + 4 * m + 3) = nI a ∧ (∀ p, p < l → I' 47 0 (597 + 96 * m + p) = I 54 0 p) ∧ ∀ j, j ≠ 2 → ¬ (541 + 4 * m ≤ j ∧ j < 541 + 4 * m + 4) → ¬ (597 + 96 * m ≤ j ∧ j < 597 + 96 * m + 96) → I' 47 0 j = I 47 0 j := by
  rw [x_M_text16 d m k l a x1 x2 I h2 hm h17 hk h21 hl h22 ha]
  have key := lpX (n := l) (σ := mm_I) (fun i J => Rn d q_M_text 17 [some (.inr (12, 0)), some (.inl x1), some (.inl x2), some (.inl (nI 1)), some (.inl (nI m)), some (.inl (nI i))] [] J) (fun i J => J = wr (tW4 I m (nI (1000 * k + l)) x1 x2 (nI a)) 47 0 (597 + 96 * m) i (fun p => I 54 0 p)) (fun q => q = some (some (.inl (nI m)), (sh0, mm_up (wr (tW4 I m (nI (1000 * k + l)) x1 x2 (nI a)) 47 0 (597 + 96 * m) l (fun p => I 54 0 p)) 47 0 2 (nI (m + 1))))) ?_ ?_ 0 (tW4 I m (nI (1000 * k + l)) x1 x2 (nI a)) (Nat.zero_le _) (wr_0 _ _ _ _ _).symm
  · refine ⟨_, key, eqo_up (eqo_wr ?_ (by decide)) (by decide), fun i hi => ?_, up_s _ _ _ _ _, ?_, ?_, ?_, ?_, fun p hp => ?_, fun j q1 q2 q3 => ?_⟩
    · unfold tW4
      exact eqo_up (eqo_up (eqo_up (eqo_up (eqo_rf _ _) (by decide)) (by decide)) (by decide)) (by decide)
    · funext j
      unfold tW4
      rw [up_F (by omega), wr_F (by omega), up_F (by omega), up_F (by omega), up_F (by omega), up_F (by omega)]
    · unfold tW4
      rw [up_F (by omega), wr_F (by omega), up_F (by omega), up_F (by omega), up_F (by omega), up_s]
    · unfold tW4
      rw [up_F (by omega), wr_F (by omega), up_F (by omega), up_F (by omega), up_s]
    · unfold tW4
      rw [up_F (by omega), wr_F (by omega), up_F (by omega), up_s]
    · unfold tW4
      rw [up_F (by omega), wr_F (by omega), up_s]
    · rw [up_F (by omega), wr_T (by omega), show 597 + 96 * m + p - (597 + 96 * m) = p by omega]
    · unfold tW4
      rw [up_F (by omega), wr_F (by omega), up_F (by omega), up_F (by omega), up_F (by omega), up_F (by omega)]
  · intro i J hi hV
    right
    have g21 : J 12 0 21 = nI l := by rw [hV, wr_F (by omega)]; unfold tW4; rw [up_F (by omega), up_F (by omega), up_F (by omega), up_F (by omega)]; exact h21
    have g54 : J 54 0 i = I 54 0 i := by rw [hV, wr_F (by omega)]; unfold tW4; rw [up_F (by omega), up_F (by omega), up_F (by omega), up_F (by omega)]
    refine ⟨mm_up J 47 0 (597 + 96 * m + i) (I 54 0 i), ?_, ?_⟩
    · rw [hV]
      exact wr_s _ 47 0 (597 + 96 * m) i (fun p => I 54 0 p)
    · simp (disch := omega) only [e_M_text_18, e_M_text_17 (x5 := nI i), lit, nad, nml, bd_s, ct_s, ct_n, a11, a01, aB2, bitA, nlt, nle, neq, dlT, dlF, deT, deF, dqT, dqF, nN, inb, nsb, ndv, nrm, if_true, if_false, ite_true, ite_false, true_and, and_true, and_self, and_false, false_and, or_true, true_or, or_false, false_or, or_self, ↓reduceIte, eq_self, Nat.reduceAdd, Nat.reduceMul, Nat.reduceSub, Nat.reduceDiv, Nat.reduceMod, Nat.zero_add, Nat.mul_zero, not_true_eq_false, not_false_eq_true, up_T, up_F, wr_T, wr_F, ngE, ngE', ngL, ngL', ngQ, ngQ', g21, g54]
  · intro J hV
    have g21 : J 12 0 21 = nI l := by rw [hV, wr_F (by omega)]; unfold tW4; rw [up_F (by omega), up_F (by omega), up_F (by omega), up_F (by omega)]; exact h21
    have g2 : J 47 0 2 = nI m := by rw [hV, wr_F (by omega)]; unfold tW4; rw [up_F (by omega), up_F (by omega), up_F (by omega), up_F (by omega)]; exact h2
    rw [← hV]
    simp (disch := omega) only [e_M_text_17, e_M_text_19, lit, nad, nml, bd_s, ct_s, ct_n, a11, a01, aB2, bitA, nlt, nle, neq, dlT, dlF, deT, deF, dqT, dqF, nN, inb, nsb, ndv, nrm, if_true, if_false, ite_true, ite_false, true_and, and_true, and_self, and_false, false_and, or_true, true_or, or_false, false_or, or_self, ↓reduceIte, eq_self, Nat.reduceAdd, Nat.reduceMul, Nat.reduceSub, Nat.reduceDiv, Nat.reduceMod, Nat.zero_add, Nat.mul_zero, not_true_eq_false, not_false_eq_true, up_T, up_F, wr_T, wr_F, ngE, ngE', ngL, ngL', ngQ, ngQ', g21, g2]
theorem s_begin (d m : Nat) (x1 x2 : Int32) (I : mm_I) : Sn (d + 1) q_Text_begin [.inr (9, m), .inl x1, .inl x2, .inr (5, 0)] I = some (none, (sh0, wr (mm_up (mm_up (mm_up (mm_up (mm_up I 9 m 0 x1) 9 m 1 x2) 9 m 2 (I 5 0 5)) 9 m 3 (I 5 0 4)) 9 m 4 (I 5 0 3)) 38 m 0 96 (fun j => I 30 0 j))) := by
  rw [n_Text_begin, e_Text_begin_0, if_pos (by decide), cp_wr]
  have r1 : ∀ J : mm_I, ∀ a b c : Int32, ∀ i j : Nat, (mm_up (mm_up J 9 m 0 a) 9 m 1 b) 5 i j = J 5 i j := fun J a b c i j => by rw [up_F (by omega), up_F (by omega)]
  have r2 : ∀ J : mm_I, ∀ c : Int32, ∀ s i j : Nat, mm_up J 9 m s c 5 i j = J 5 i j := fun J c s i j => up_F (by omega)
  have r3 : ∀ J : mm_I, ∀ c : Int32, ∀ s i j : Nat, mm_up J 9 m s c 30 i j = J 30 i j := fun J c s i j => up_F (by omega)
  simp only [r2, r3]
  have : (fun j => I 30 0 ((0 : Int32).toInt.toNat + j)) = fun j => I 30 0 j := by
    funext j
    rw [show (0 : Int32).toInt.toNat = 0 from rfl, Nat.zero_add]
  rw [this]
  rfl
theorem Ok_text (d : Nat) (w y : Int32) : Ok (d + 200) q_H_text q_M_text [.inl w, .inl y] := by
  intro I hI
  have hI0 := hI
  obtain ⟨hr, A, hC, hR, g, hy, hImg⟩ := hI
  obtain ⟨n, T, n1, n2, n3, n4⟩ := hr.2.2.1
  -- refused
  have bad : (¬ (nI 0 ≤ w ∧ w ≤ nI 3) ∨ ¬ (nI 0 ≤ y ∧ y ≤ nI 200)) → ∃ r I1 I2, Sn (d + 200) q_H_text [.inr (11, 0), .inl w, .inl y] I = some (some (.inl r), (sh0, I1)) ∧ Sn (d + 200) q_M_text [.inr (12, 0), .inl w, .inl y] I1 = some (some (.inl r), (sh0, I2)) ∧ Inv I2 := by
    intro hb
    refine ⟨-nI 1000000001, mm_up I 5 0 1 (nI 0), mm_up (mm_up I 5 0 1 (nI 0)) 12 0 11 (nI 0), ?_, ?_, Inv_t0 hI0 (fun k hk => ?_) (fun j hj => ?_) (by rw [up_F (by omega), up_s]) (up_s _ _ _ _ _)⟩
    · by_cases z : nI 0 ≤ w ∧ w ≤ nI 3
      · have z2 : ¬ (nI 0 ≤ y ∧ y ≤ nI 200) := by
          rcases hb with q | q
          · exact absurd z q
          · exact q
        simp (disch := omega) only [n_H_text, e_H_text_0, e_H_text_1, e_H_text_2, e_H_text_3, e_H_text_5, e_H_text_6, e_H_text_9, e_H_text_10, e_H_text_11, s_H_within, lit, nad, nml, bd_s, ct_s, ct_n, a11, a01, aB2, bitA, nlt, nle, neq, dlT, dlF, deT, deF, dqT, dqF, nN, inb, nsb, ndv, nrm, if_true, if_false, ite_true, ite_false, true_and, and_true, and_self, and_false, false_and, or_true, true_or, or_false, false_or, or_self, ↓reduceIte, eq_self, Nat.reduceAdd, Nat.reduceMul, Nat.reduceSub, Nat.reduceDiv, Nat.reduceMod, Nat.zero_add, Nat.mul_zero, not_true_eq_false, not_false_eq_true, up_T, up_F, wr_T, wr_F, ngE, ngE', ngL, ngL', ngQ, ngQ', z, z2]
      · simp (disch := omega) only [n_H_text, e_H_text_0, e_H_text_1, e_H_text_5, e_H_text_6, e_H_text_9, e_H_text_10, e_H_text_11, s_H_within, lit, nad, nml, bd_s, ct_s, ct_n, a11, a01, aB2, bitA, nlt, nle, neq, dlT, dlF, deT, deF, dqT, dqF, nN, inb, nsb, ndv, nrm, if_true, if_false, ite_true, ite_false, true_and, and_true, and_self, and_false, false_and, or_true, true_or, or_false, false_or, or_self, ↓reduceIte, eq_self, Nat.reduceAdd, Nat.reduceMul, Nat.reduceSub, Nat.reduceDiv, Nat.reduceMod, Nat.zero_add, Nat.mul_zero, not_true_eq_false, not_false_eq_true, up_T, up_F, wr_T, wr_F, ngE, ngE', ngL, ngL', ngQ, ngQ', z]
    · by_cases z : nI 0 ≤ w ∧ w ≤ nI 3
      · have z2 : ¬ (nI 0 ≤ y ∧ y ≤ nI 200) := by
          rcases hb with q | q
          · exact absurd z q
          · exact q
        simp (disch := omega) only [n_M_text, e_M_text_0, e_M_text_1, e_M_text_2, e_M_text_3, e_M_text_4, s_M_in, lit, nad, nml, bd_s, ct_s, ct_n, a11, a01, aB2, bitA, nlt, nle, neq, dlT, dlF, deT, deF, dqT, dqF, nN, inb, nsb, ndv, nrm, if_true, if_false, ite_true, ite_false, true_and, and_true, and_self, and_false, false_and, or_true, true_or, or_false, false_or, or_self, ↓reduceIte, eq_self, Nat.reduceAdd, Nat.reduceMul, Nat.reduceSub, Nat.reduceDiv, Nat.reduceMod, Nat.zero_add, Nat.mul_zero, not_true_eq_false, not_false_eq_true, up_T, up_F, wr_T, wr_F, ngE, ngE', ngL, ngL', ngQ, ngQ', z, z2]
      · simp (disch := omega) only [n_M_text, e_M_text_0, e_M_text_1, e_M_text_4, s_M_in, lit, nad, nml, bd_s, ct_s, ct_n, a11, a01, aB2, bitA, nlt, nle, neq, dlT, dlF, deT, deF, dqT, dqF, nN, inb, nsb, ndv, nrm, if_true, if_false, ite_true, ite_false, true_and, and_true, and_self, and_false, false_and, or_true, true_or, or_false, false_or, or_self, ↓reduceIte, eq_self, Nat.reduceAdd, Nat.reduceMul, Nat.reduceSub, Nat.reduceDiv, Nat.reduceMod, Nat.zero_add, Nat.mul_zero, not_true_eq_false, not_false_eq_true, up_T, up_F, wr_T, wr_F, ngE, ngE', ngL, ngL', ngQ, ngQ', z]
    · simp only [List.mem_cons, List.not_mem_nil, or_false, not_or] at hk
      funext a b
      rw [up_F (by omega), up_F (by omega)]
    · rw [up_F (by omega), up_F (by omega)]
  by_cases h1 : nI 0 ≤ w ∧ w ≤ nI 3
  rotate_left
  · exact bad (Or.inl h1)
  by_cases h2 : nI 0 ≤ y ∧ y ≤ nI 200
  rotate_left
  · exact bad (Or.inr h2)
  obtain ⟨ow, -, o1, o2⟩ := wof h1 (by decide) (by decide)
  subst o2
  obtain ⟨yr, -, y1, y2⟩ := wof h2 (by decide) (by decide)
  subst y2
  have hT : TC T n I := ⟨n1, n2, fun p hp => ⟨(n4 p hp).1, (n4 p hp).2.1⟩⟩
  obtain ⟨I1, z, a1, a2, a3⟩ := s_readText (d + 132) n T I hT
  have sH : ∀ (v : Int32), Sn (d + 132 + 67) q_Reader_readText [.inr (5, 0)] I = some (some (.inl v), (sh0, I1)) → Sn (d + 200) q_H_text [.inr (11, 0), .inl (nI ow), .inl (nI yr)] I = Rn (d + 199) q_H_text 12 [some (.inr (11, 0)), some (.inl (nI ow)), some (.inl (nI yr)), some (.inl (nI 1)), some (.inl v), none] [] (mm_up I1 5 0 1 (nI 0)) := fun v hv => by
    have hv' : Sn (d + 199) q_Reader_readText [.inr (5, 0)] I = some (some (.inl v), (sh0, I1)) := hv
    simp (disch := omega) only [n_H_text, e_H_text_0, e_H_text_1, e_H_text_2, e_H_text_3, e_H_text_4, e_H_text_6, e_H_text_7, e_H_text_8, e_H_text_10, s_H_within, lit, nad, nml, bd_s, ct_s, ct_n, a11, a01, aB2, bitA, nlt, nle, neq, dlT, dlF, deT, deF, dqT, dqF, nN, inb, nsb, ndv, nrm, if_true, if_false, ite_true, ite_false, true_and, and_true, and_self, and_false, false_and, or_true, true_or, or_false, false_or, or_self, ↓reduceIte, eq_self, Nat.reduceAdd, Nat.reduceMul, Nat.reduceSub, Nat.reduceDiv, Nat.reduceMod, Nat.zero_add, Nat.mul_zero, not_true_eq_false, not_false_eq_true, up_T, up_F, wr_T, wr_F, ngE, ngE', ngL, ngL', ngQ, ngQ', hv']
  have sM : ∀ J, Sn (d + 200) q_M_text [.inr (12, 0), .inl (nI ow), .inl (nI yr)] J = Rn (d + 199) q_M_text 5 [some (.inr (12, 0)), some (.inl (nI ow)), some (.inl (nI yr)), none, none, none] [] J := fun J => by
    simp (disch := omega) only [n_M_text, e_M_text_0, e_M_text_1, e_M_text_2, e_M_text_3, s_M_in, lit, nad, nml, bd_s, ct_s, ct_n, a11, a01, aB2, bitA, nlt, nle, neq, dlT, dlF, deT, deF, dqT, dqF, nN, inb, nsb, ndv, nrm, if_true, if_false, ite_true, ite_false, true_and, and_true, and_self, and_false, false_and, or_true, true_or, or_false, false_or, or_self, ↓reduceIte, eq_self, Nat.reduceAdd, Nat.reduceMul, Nat.reduceSub, Nat.reduceDiv, Nat.reduceMod, Nat.zero_add, Nat.mul_zero, not_true_eq_false, not_false_eq_true, up_T, up_F, wr_T, wr_F, ngE, ngE', ngL, ngL', ngQ, ngQ']
  -- the reference behind any memory of the class that agrees
  have toM : ∀ J : mm_I, (∀ k, k = 12 ∨ k = 52 ∨ k = 53 ∨ k = 210 → J k = I k) → TR T n J ∧ Kst J := fun J hJ => ⟨⟨n1, by rw [hJ 12 (by omega)]; exact n3, fun p hp => ⟨(n4 p hp).1, by rw [hJ 52 (by omega)]; exact (n4 p hp).2.2⟩⟩, Kst_eq hr.2.1 (fun k i j q => by unfold kstC at q; rw [hJ k (by omega)])⟩
  have eJ : ∀ k, k ∉ [5, 30] → mm_up I1 5 0 1 (nI 0) k = I k := fun k hk => by
    rw [← a1 k hk]
    simp only [List.mem_cons, List.not_mem_nil, or_false, not_or] at hk
    funext a b
    exact up_F (by omega)
  have fin0 : ∀ I2, tF (mm_up I1 5 0 1 (nI 0)) I2 → I2 12 0 11 = nI 0 → Inv I2 := fun I2 t2 t3 => Inv_t0 hI0 (fun k hk => by
      have hk' := hk
      simp only [List.mem_cons, List.not_mem_nil, or_false, not_or] at hk'
      rw [t2.1 k (by simp; omega), eJ k (by simp; omega)]) (fun j hj => by rw [t2.2 j (by omega) (by omega) (by omega) (by omega), eJ 12 (by decide)]) (by rw [t2.1 5 (by decide), up_s]) t3
  cases z with
  | inl p =>
    obtain ⟨p1, p2⟩ := a3
    obtain ⟨tr, ks⟩ := toM (mm_up I1 5 0 1 (nI 0)) (fun k hk => eJ k (by simp; omega))
    obtain ⟨I2, t2, t3, t4⟩ := s_Mread (d + 195) n T (nI ow) (nI yr) (.inl p) _ tr ks a2
    refine ⟨-nI 100 - nI p, mm_up I1 5 0 1 (nI 0), I2, ?_, ?_, fin0 I2 t2 t3⟩
    · rw [sH _ p2]
      rw [e_H_text_12, if_neg (by rw [show (0 : Int32) = nI 0 from rfl, nlt (by omega) (by omega)]; omega), e_H_text_13]
      rfl
    · rw [sM]
      exact t4
  | inr v =>
    obtain ⟨key, C, a⟩ := v
    obtain ⟨p1, p2, p3, p4, p5, p6, p7, p8, p9, p10⟩ := a3
    have hm := g.1.2.1
    have h35 : I 3 0 5 = nI (A 0 0 2) := hC.1.2.1
    have j35 : mm_up I1 5 0 1 (nI 0) 3 0 5 = nI (A 0 0 2) := by rw [eJ 3 (by decide)]; exact h35
    have s12 : Rn (d + 199) q_H_text 12 [some (.inr (11, 0)), some (.inl (nI ow)), some (.inl (nI yr)), some (.inl (nI 1)), some (.inl (-nI 1)), none] [] (mm_up I1 5 0 1 (nI 0)) = Rn (d + 199) q_H_text 14 [some (.inr (11, 0)), some (.inl (nI ow)), some (.inl (nI yr)), some (.inl (nI 1)), some (.inl (-nI 1)), none] [] (mm_up I1 5 0 1 (nI 0)) := by
      rw [e_H_text_12, if_pos (by decide)]
    by_cases e : A 0 0 2 < 14
    rotate_left
    · obtain ⟨tr, ks⟩ := toM (mm_up I1 5 0 1 (nI 0)) (fun k hk => eJ k (by simp; omega))
      obtain ⟨I2, t2, t3, t4, t5, t6, t7, t8⟩ := s_Mread (d + 195) n T (nI ow) (nI yr) (.inr (key, C, a)) _ tr ks a2
      refine ⟨-nI 1000000003, mm_up I1 5 0 1 (nI 0), I2, ?_, ?_, fin0 I2 t2 t3⟩
      · rw [sH _ p1, s12]
        have i35 : I1 3 0 5 = nI (A 0 0 2) := by rw [a1 3 (by decide)]; exact h35
        simp (disch := omega) only [e_H_text_14, e_H_text_15, lit, nad, nml, bd_s, ct_s, ct_n, a11, a01, aB2, bitA, nlt, nle, neq, dlT, dlF, deT, deF, dqT, dqF, nN, inb, nsb, ndv, nrm, if_true, if_false, ite_true, ite_false, true_and, and_true, and_self, and_false, false_and, or_true, true_or, or_false, false_or, or_self, ↓reduceIte, eq_self, Nat.reduceAdd, Nat.reduceMul, Nat.reduceSub, Nat.reduceDiv, Nat.reduceMod, Nat.zero_add, Nat.mul_zero, not_true_eq_false, not_false_eq_true, up_T, up_F, wr_T, wr_F, ngE, ngE', ngL, ngL', ngQ, ngQ', i35]
      · have g2 : I2 47 0 2 = nI (A 0 0 2) := by rw [t2.1 47 (by decide), eJ 47 (by decide)]; exact hR.1 2 (by decide)
        rw [sM, t4]
        simp (disch := omega) only [e_M_text_14, e_M_text_15, lit, nad, nml, bd_s, ct_s, ct_n, a11, a01, aB2, bitA, nlt, nle, neq, dlT, dlF, deT, deF, dqT, dqF, nN, inb, nsb, ndv, nrm, if_true, if_false, ite_true, ite_false, true_and, and_true, and_self, and_false, false_and, or_true, true_or, or_false, false_or, or_self, ↓reduceIte, eq_self, Nat.reduceAdd, Nat.reduceMul, Nat.reduceSub, Nat.reduceDiv, Nat.reduceMod, Nat.zero_add, Nat.mul_zero, not_true_eq_false, not_false_eq_true, up_T, up_F, wr_T, wr_F, ngE, ngE', ngL, ngL', ngQ, ngQ', g2]
    · have bg := s_begin (d + 198) (A 0 0 2) (nI ow) (nI yr) (mm_up I1 5 0 1 (nI 0))
      have j5 : mm_up I1 5 0 1 (nI 0) 5 0 5 = nI key := by rw [up_F (by omega)]; exact p5
      have j4 : mm_up I1 5 0 1 (nI 0) 5 0 4 = nI a := by rw [up_F (by omega)]; exact p4
      have j3 : mm_up I1 5 0 1 (nI 0) 5 0 3 = nI C.length := by rw [up_F (by omega)]; exact p3
      have j30 : ∀ p, p < C.length → mm_up I1 5 0 1 (nI 0) 30 0 p = nI (mm_at 0 C p) := fun p hp => by rw [up_F (by omega)]; exact p6 p hp
      have j51 : mm_up I1 5 0 1 (nI 0) 5 0 1 = nI 0 := up_s _ _ _ _ _
      rw [j5, j4, j3] at bg
      generalize mm_up I1 5 0 1 (nI 0) = J at *
      have stH : Rn (d + 199) q_H_text 14 [some (.inr (11, 0)), some (.inl (nI ow)), some (.inl (nI yr)), some (.inl (nI 1)), some (.inl (-nI 1)), none] [] J = some (some (.inl (nI (A 0 0 2))), (sh0, mm_up (wr (mm_up (mm_up (mm_up (mm_up (mm_up J 9 (A 0 0 2) 0 (nI ow)) 9 (A 0 0 2) 1 (nI yr)) 9 (A 0 0 2) 2 (nI key)) 9 (A 0 0 2) 3 (nI a)) 9 (A 0 0 2) 4 (nI C.length)) 38 (A 0 0 2) 0 96 (fun j => J 30 0 j)) 3 0 5 (nI (A 0 0 2 + 1)))) := by
        simp (disch := omega) only [e_H_text_14, e_H_text_16, e_H_text_17, lit, nad, nml, bd_s, ct_s, ct_n, a11, a01, aB2, bitA, nlt, nle, neq, dlT, dlF, deT, deF, dqT, dqF, nN, inb, nsb, ndv, nrm, if_true, if_false, ite_true, ite_false, true_and, and_true, and_self, and_false, false_and, or_true, true_or, or_false, false_or, or_self, ↓reduceIte, eq_self, Nat.reduceAdd, Nat.reduceMul, Nat.reduceSub, Nat.reduceDiv, Nat.reduceMod, Nat.zero_add, Nat.mul_zero, not_true_eq_false, not_false_eq_true, up_T, up_F, wr_T, wr_F, ngE, ngE', ngL, ngL', ngQ, ngQ', j35, bg]
      have q0 : ∀ k i j, ¬ (k = 3 ∧ i = 0 ∧ j = 5) → ¬ (k = 38 ∧ i = A 0 0 2) → ¬ (k = 9 ∧ i = A 0 0 2) → mm_up (wr (mm_up (mm_up (mm_up (mm_up (mm_up J 9 (A 0 0 2) 0 (nI ow)) 9 (A 0 0 2) 1 (nI yr)) 9 (A 0 0 2) 2 (nI key)) 9 (A 0 0 2) 3 (nI a)) 9 (A 0 0 2) 4 (nI C.length)) 38 (A 0 0 2) 0 96 (fun j => J 30 0 j)) 3 0 5 (nI (A 0 0 2 + 1)) k i j = J k i j := fun k i j z1 z2 z3 => by
        rw [up_F z1, wr_F (by omega), up_F (by omega), up_F (by omega), up_F (by omega), up_F (by omega), up_F (by omega)]
      have q5 : mm_up (wr (mm_up (mm_up (mm_up (mm_up (mm_up J 9 (A 0 0 2) 0 (nI ow)) 9 (A 0 0 2) 1 (nI yr)) 9 (A 0 0 2) 2 (nI key)) 9 (A 0 0 2) 3 (nI a)) 9 (A 0 0 2) 4 (nI C.length)) 38 (A 0 0 2) 0 96 (fun j => J 30 0 j)) 3 0 5 (nI (A 0 0 2 + 1)) 3 0 5 = nI (A 0 0 2 + 1) := up_s _ _ _ _ _
      have q9 : ∀ j, mm_up (wr (mm_up (mm_up (mm_up (mm_up (mm_up J 9 (A 0 0 2) 0 (nI ow)) 9 (A 0 0 2) 1 (nI yr)) 9 (A 0 0 2) 2 (nI key)) 9 (A 0 0 2) 3 (nI a)) 9 (A 0 0 2) 4 (nI C.length)) 38 (A 0 0 2) 0 96 (fun j => J 30 0 j)) 3 0 5 (nI (A 0 0 2 + 1)) 9 (A 0 0 2) j = mm_up (mm_up (mm_up (mm_up (mm_up J 9 (A 0 0 2) 0 (nI ow)) 9 (A 0 0 2) 1 (nI yr)) 9 (A 0 0 2) 2 (nI key)) 9 (A 0 0 2) 3 (nI a)) 9 (A 0 0 2) 4 (nI C.length) 9 (A 0 0 2) j := fun j => by rw [up_F (by omega), wr_F (by omega)]
      have q38 : ∀ j, j < 96 → mm_up (wr (mm_up (mm_up (mm_up (mm_up (mm_up J 9 (A 0 0 2) 0 (nI ow)) 9 (A 0 0 2) 1 (nI yr)) 9 (A 0 0 2) 2 (nI key)) 9 (A 0 0 2) 3 (nI a)) 9 (A 0 0 2) 4 (nI C.length)) 38 (A 0 0 2) 0 96 (fun j => J 30 0 j)) 3 0 5 (nI (A 0 0 2 + 1)) 38 (A 0 0 2) j = J 30 0 j := fun j hj => by rw [up_F (by omega), wr_T (by omega)]; rfl
      generalize mm_up (wr (mm_up (mm_up (mm_up (mm_up (mm_up J 9 (A 0 0 2) 0 (nI ow)) 9 (A 0 0 2) 1 (nI yr)) 9 (A 0 0 2) 2 (nI key)) 9 (A 0 0 2) 3 (nI a)) 9 (A 0 0 2) 4 (nI C.length)) 38 (A 0 0 2) 0 96 (fun j => J 30 0 j)) 3 0 5 (nI (A 0 0 2 + 1)) = L at *
      have eL : ∀ k i j, k ≠ 5 → k ≠ 30 → ¬ (k = 3 ∧ i = 0 ∧ j = 5) → ¬ (k = 38 ∧ i = A 0 0 2) → ¬ (k = 9 ∧ i = A 0 0 2) → L k i j = I k i j := fun k i j w1 w2 z1 z2 z3 => by rw [q0 k i j z1 z2 z3, eJ k (by simp; omega)]
      have eLk : ∀ k, k ≠ 3 → k ≠ 5 → k ≠ 9 → k ≠ 30 → k ≠ 38 → L k = I k := fun k z1 z2 z3 z4 z5 => by funext i j; exact eL k i j z2 z4 (by omega) (by omega) (by omega)
      obtain ⟨tr, ks⟩ := toM L (fun k hk => eLk k (by omega) (by omega) (by omega) (by omega) (by omega))
      obtain ⟨I2, t2, t3, t4, t5, t6, t7, t8⟩ := s_Mread (d + 195) n T (nI ow) (nI yr) (.inr (key, C, a)) L tr ks a2
      have g2 : I2 47 0 2 = nI (A 0 0 2) := by rw [t2.1 47 (by decide), eLk 47 (by decide) (by decide) (by decide) (by decide) (by decide)]; exact hR.1 2 (by decide)
      obtain ⟨I3, u1, u2, u2', u3, u4, u5, u6, u7, u8, u9⟩ := s_M_textW (d + 199) (A 0 0 2) key C.length a (nI ow) (nI yr) I2 g2 e t5 p2 t6 p7 t7 p8
      have e3 : ∀ k i j, k ≠ 5 → k ≠ 30 → k ≠ 12 → k ≠ 54 → k ≠ 55 → k ≠ 201 → ¬ (k = 47 ∧ i = 0) → ¬ (k = 3 ∧ i = 0 ∧ j = 5) → ¬ (k = 38 ∧ i = A 0 0 2) → ¬ (k = 9 ∧ i = A 0 0 2) → I3 k i j = I k i j := fun k i j w1 w2 w3 w4 w5 w6 w7 z1 z2 z3 => by
        have : I3 k i j = I2 k i j := by
          by_cases w : k = 47
          · subst w; rw [u2' i (by omega)]
          · rw [u2 k (by simp; omega)]
        rw [this, t2.1 k (by simp; omega)]
        exact eL k i j w1 w2 z1 z2 z3
      have e12 : ∀ j, j = 3 ∨ j = 8 ∨ j = 47 → I3 12 0 j = I 12 0 j := fun j hj => by
        rw [u2 12 (by decide), t2.2 j (by omega) (by omega) (by omega) (by omega), eLk 12 (by decide) (by decide) (by decide) (by decide) (by decide)]
      have eI : ∀ k, k ∉ [12, 47, 54, 55, 201] → I3 k = L k := fun k hk => by
        have hk' := hk
        simp only [List.mem_cons, List.not_mem_nil, or_false, not_or] at hk'
        rw [u2 k (by simp; omega), t2.1 k (by simp; omega)]
      have GT := Good_tx (key := key) (ow := ow) (yr := yr) (a := a) (C := C) g e p2 o1 y1 p8 p7 p9 p10
      refine ⟨nI (A 0 0 2), L, I3, ?_, ?_, ⟨Fix_o hr.1 (fun r j _ => e3 _ _ _ (by omega) (by omega) (by omega) (by omega) (by omega) (by omega) (by omega) (by omega) (by omega) (by omega)), Kst_eq hr.2.1 (fun k i j q => ?_), ⟨0, T, by decide, ?_, ?_, fun k hk => absurd hk (Nat.not_lt_zero _)⟩, Cnt_eq hr.2.2.2.1 (fun k i j q => ?_), Hts_eq hr.2.2.2.2.1 (fun k i j q => ?_), Num_eq hr.2.2.2.2.2 (fun k i j q => ?_)⟩, txA A key ow yr a C, ?_, ?_, GT, ?_, ?_⟩
      · rw [sH _ p1, s12, stH]
      · rw [sM, t4, u1]
      · unfold kstC at q
        by_cases z : k = 12
        · rcases q with ⟨q1, q2, q3⟩ | q | q
          · rw [q1, q2, q3]; exact e12 8 (by omega)
          · omega
          · omega
        · exact e3 k i j (by omega) (by omega) z (by omega) (by omega) (by omega) (by omega) (by omega) (by omega) (by omega)
      · rw [eI 5 (by decide), q0 5 0 1 (by omega) (by omega) (by omega)]; exact j51
      · rw [u2 12 (by decide)]; exact t3
      · unfold cntC at q
        exact e3 k i j (by omega) (by omega) (by omega) (by omega) (by omega) (by omega) (by omega) (by omega) (by omega) (by omega)
      · unfold htsC at q
        exact e3 k i j (by omega) (by omega) (by omega) (by omega) (by omega) (by omega) (by omega) (by omega) (by omega) (by omega)
      · unfold numC at q
        by_cases z : k = 12
        · rcases q with ⟨q1, q2, q3⟩ | ⟨q1, q2, q3⟩ | q | q
          · omega
          · rw [q1, q2, q3]; exact e12 47 (by omega)
          · omega
          · omega
        · exact e3 k i j (by omega) (by omega) z (by omega) (by omega) (by omega) (by omega) (by omega) (by omega) (by omega)
      · refine RepC_tx hC g (fun j hj => e3 _ _ _ (by omega) (by omega) (by omega) (by omega) (by omega) (by omega) (by omega) (by omega) (by omega) (by omega)) (by rw [eI 3 (by decide)]; exact q5) (fun k hk => by funext i j; exact e3 k i j (by omega) (by omega) (by omega) (by omega) (by omega) (by omega) (by omega) (by omega) (by omega) (by omega)) (fun r hr => ⟨by funext j; exact e3 9 r j (by omega) (by omega) (by omega) (by omega) (by omega) (by omega) (by omega) (by omega) (by omega) (by omega), by funext j; exact e3 38 r j (by omega) (by omega) (by omega) (by omega) (by omega) (by omega) (by omega) (by omega) (by omega) (by omega)⟩) ?_ ?_ ?_ ?_ ?_ (fun k hk => ?_)
        · rw [eI 9 (by decide), q9, up_F (by omega), up_F (by omega), up_F (by omega), up_F (by omega), up_s]
        · rw [eI 9 (by decide), q9, up_F (by omega), up_F (by omega), up_F (by omega), up_s]
        · rw [eI 9 (by decide), q9, up_F (by omega), up_F (by omega), up_s]
        · rw [eI 9 (by decide), q9, up_F (by omega), up_s]
        · rw [eI 9 (by decide), q9, up_s]
        · rw [eI 38 (by decide), q38 k (by omega)]; exact j30 k hk
      · have R2 : RepR 0 A I2 := RepR_o hR (by rw [t2.1 47 (by decide), eLk 47 (by decide) (by decide) (by decide) (by decide) (by decide)])
        exact RepR_tx R2 g e u3 u9 u4 u5 u6 u7 (fun k hk => by rw [u8 k hk]; exact t8 k hk)
      · rw [tx_o (by omega) (by omega)]; exact hy
      · unfold Img
        rw [e12 3 (by omega), e3 11 0 3 (by omega) (by omega) (by omega) (by omega) (by omega) (by omega) (by omega) (by omega) (by omega) (by omega)]
        rcases hImg with q | ⟨v1, v2, B, v3, v4, v5, v6, v7⟩
        · exact Or.inl q
        · refine Or.inr ⟨v1, v2, B, RepC_fr2 v3 v5 (fun k i q => ?_), RepR_o v4 (by funext j; exact e3 47 1 j (by omega) (by omega) (by omega) (by omega) (by omega) (by omega) (by omega) (by omega) (by omega) (by omega)), v5, v6, by rw [tx_2]; omega⟩
          funext j
          unfold hc at q
          exact e3 k i j (by omega) (by omega) (by omega) (by omega) (by omega) (by omega) (by omega) (by omega) (by omega) (by omega)
