/-! Calls: feed, count, check. -/
def byN (x : Int32) (s : Nat) : Nat := x.toBitVec.toNat / 2 ^ s % 256
theorem shr_n (y : Int32) : (y.toBitVec.toNat : Int) = y.toInt ∨ (y.toBitVec.toNat : Int) = y.toInt + 4294967296 := by
  have h : y.toInt = y.toBitVec.toInt := rfl
  rw [h, BitVec.toInt_eq_toNat_cond]
  split
  · exact Or.inl rfl
  · right; omega
theorem by_M (x : Int32) {s : Nat} (h : s = 24 ∨ s = 16 ∨ s = 8 ∨ s = 0) : x >>> (nI s &&& nI 31) &&& nI 255 = nI (byN x s) := by
  have key : ∀ (k : Nat), k = 24 ∨ k = 16 ∨ k = 8 ∨ k = 0 → (x >>> (nI k &&& nI 31)).toInt = x.toInt >>> k → (x >>> (nI k &&& nI 31)).toBitVec.toNat % 2 ^ 8 = x.toBitVec.toNat / 2 ^ k % 256 := by
    intro k hk e
    rw [Int.shiftRight_eq_div_pow] at e
    have h1 := shr_n (x >>> (nI k &&& nI 31))
    have h2 := shr_n x
    have h3 := x.toBitVec.isLt
    have h4 := (x >>> (nI k &&& nI 31)).toBitVec.isLt
    generalize (x >>> (nI k &&& nI 31)).toBitVec.toNat = a at *
    generalize (x >>> (nI k &&& nI 31)).toInt = b at *
    generalize x.toBitVec.toNat = c at *
    generalize x.toInt = f at *
    rcases hk with q | q | q | q <;> subst q <;> simp only [Nat.reducePow, Int.reducePow] at * <;> omega
  rw [pk_and _ 8 (by decide)]
  unfold byN
  rcases h with e | e | e | e <;> subst e
  · rw [key 24 (by omega) (pk_shr x _ 24 (by decide))]
  · rw [key 16 (by omega) (pk_shr x _ 16 (by decide))]
  · rw [key 8 (by omega) (pk_shr x _ 8 (by decide))]
  · rw [key 0 (by omega) (pk_shr x _ 0 (by decide))]
theorem by_C (x : Int32) {s : Nat} (h : s = 24 ∨ s = 16 ∨ s = 8 ∨ s = 0) : (x.toUInt32 >>> ((nI s).toUInt32 &&& Int32.toUInt32 (nI 31))).toInt32 &&& nI 255 = nI (byN x s) := by
  rw [pk_and _ 8 (by decide)]
  unfold byN
  rcases h with e | e | e | e <;> subst e
  · rw [show (nI 31) = 31 from rfl, pk_ushr x (nI 24) 24 (by decide)]
  · rw [show (nI 31) = 31 from rfl, pk_ushr x (nI 16) 16 (by decide)]
  · rw [show (nI 31) = 31 from rfl, pk_ushr x (nI 8) 8 (by decide)]
  · rw [show (nI 31) = 31 from rfl, pk_ushr x (nI 0) 0 (by decide)]
theorem nmn {a b : Nat} (h : b ≤ a) : nI a + -nI b = nI (a - b) := by rw [← nsb h, Int32.sub_eq_add_neg]
theorem n0n (b : Nat) : nI 0 + -nI b = -nI b := by rw [nI_0, Int32.zero_add]
theorem s_Reader_take (d n : Nat) (v : Int32) (I : mm_I) (h : I 5 0 1 = nI n) (hn : n + 4 ≤ 96) : ∃ I', Sn (d + 1) q_Reader_take [.inr (5, 0), .inl v] I = some (none, (sh0, I')) ∧ I' 5 0 1 = nI (n + 4) ∧ (∀ i, i < 4 → I' 29 0 (n + i) = nI (byN v (24 - 8 * i))) ∧ ∀ k i j, ¬ (k = 5 ∧ i = 0 ∧ j = 1) → ¬ (k = 29 ∧ i = 0 ∧ n ≤ j ∧ j < n + 4) → I' k i j = I k i j := by
  refine ⟨mm_up (mm_up (mm_up (mm_up (mm_up (mm_up (mm_up (mm_up I 29 0 n (nI (byN v 24))) 5 0 1 (nI (n + 1))) 29 0 (n + 1) (nI (byN v 16))) 5 0 1 (nI (n + 2))) 29 0 (n + 2) (nI (byN v 8))) 5 0 1 (nI (n + 3))) 29 0 (n + 3) (nI (byN v 0))) 5 0 1 (nI (n + 4)), ?_, ?_, ?_, ?_⟩
  · simp (disch := omega) only [n_Reader_take, e_Reader_take_0, e_Reader_take_1, e_Reader_take_2, e_Reader_take_3, e_Reader_take_4, lit, nad, nml, bd_s, ct_s, ct_n, a11, a01, aB2, bitA, nlt, nle, neq, dlT, dlF, deT, deF, dqT, dqF, nN, inb, nsb, ndv, nrm, if_true, if_false, ite_true, ite_false, true_and, and_true, and_self, and_false, false_and, or_true, true_or, or_false, false_or, or_self, ↓reduceIte, eq_self, Nat.reduceAdd, Nat.reduceMul, Nat.reduceSub, Nat.reduceDiv, Nat.reduceMod, Nat.zero_add, Nat.mul_zero, not_true_eq_false, not_false_eq_true, up_T, up_F, wr_T, wr_F, ngE, ngE', ngL, ngL', ngQ, ngQ', h, by_C, nmn, n0n, Nat.add_assoc]
  · rw [up_s]
  · intro i hi
    rcases (show i = 0 ∨ i = 1 ∨ i = 2 ∨ i = 3 by omega) with e | e | e | e <;> subst e <;> simp (disch := omega) only [up_T, up_F]
  · intro k i j h1 h2
    simp (disch := omega) only [up_F]
def fdB (a b c : Int32) (i : Nat) : Nat := byN (if i < 4 then a else if i < 8 then b else c) (24 - 8 * (i % 4))
theorem fdB_b (a b c : Int32) (i : Nat) : fdB a b c i ≤ 255 := by unfold fdB byN; omega
theorem s_H_feed (d n : Nat) (a b c : Int32) (I : mm_I) (h : I 5 0 1 = nI n) (hn : n + 12 ≤ 96) : ∃ I', Sn (d + 2) q_H_feed [.inr (11, 0), .inl a, .inl b, .inl c] I = some (some (.inl (nI (n + 12))), (sh0, I')) ∧ I' 5 0 1 = nI (n + 12) ∧ (∀ i, i < 12 → I' 29 0 (n + i) = nI (fdB a b c i)) ∧ ∀ k i j, ¬ (k = 5 ∧ i = 0 ∧ j = 1) → ¬ (k = 29 ∧ i = 0 ∧ n ≤ j ∧ j < n + 12) → I' k i j = I k i j := by
  obtain ⟨I1, a1, a2, a3, a4⟩ := s_Reader_take d n a I h (by omega)
  obtain ⟨I2, b1, b2, b3, b4⟩ := s_Reader_take d (n + 4) b I1 a2 (by omega)
  obtain ⟨I3, c1, c2, c3, c4⟩ := s_Reader_take d (n + 4 + 4) c I2 b2 (by omega)
  refine ⟨I3, ?_, c2, fun i hi => ?_, fun k i j h1 h2 => by rw [c4 k i j h1 (by omega), b4 k i j h1 (by omega), a4 k i j h1 (by omega)]⟩
  · simp (disch := omega) only [n_H_feed, e_H_feed_0, e_H_feed_1, e_H_feed_2, e_H_feed_3, e_H_feed_4, e_H_feed_5, lit, nad, nml, bd_s, ct_s, ct_n, a11, a01, aB2, bitA, nlt, nle, neq, dlT, dlF, deT, deF, dqT, dqF, nN, inb, nsb, ndv, nrm, if_true, if_false, ite_true, ite_false, true_and, and_true, and_self, and_false, false_and, or_true, true_or, or_false, false_or, or_self, ↓reduceIte, eq_self, Nat.reduceAdd, Nat.reduceMul, Nat.reduceSub, Nat.reduceDiv, Nat.reduceMod, Nat.zero_add, Nat.mul_zero, not_true_eq_false, not_false_eq_true, up_T, up_F, wr_T, wr_F, ngE, ngE', ngL, ngL', ngQ, ngQ', h, a1, b1, c1, c2, Nat.add_assoc]
  · unfold fdB
    by_cases e : i < 4
    · rw [if_pos e, Nat.mod_eq_of_lt e, c4 _ _ _ (by omega) (by omega), b4 _ _ _ (by omega) (by omega)]
      exact a3 i e
    · rw [if_neg e]
      by_cases e2 : i < 8
      · rw [if_pos e2, c4 _ _ _ (by omega) (by omega), show n + i = n + 4 + (i - 4) by omega, show i % 4 = i - 4 by omega]
        exact b3 (i - 4) (by omega)
      · rw [if_neg e2, show n + i = n + 4 + 4 + (i - 8) by omega, show i % 4 = i - 8 by omega]
        exact c3 (i - 8) (by omega)
theorem md4 (i : Nat) : i - i / 4 * 4 = i % 4 := by omega
theorem s_M_feed (d n : Nat) (a b c : Int32) (I : mm_I) (h : I 12 0 11 = nI n) (hn : n + 12 ≤ 96) : Sn (d + 1) q_M_feed [.inr (12, 0), .inl a, .inl b, .inl c] I = some (some (.inl (nI (n + 12))), (sh0, mm_up (wr I 52 0 n 12 (fun i => nI (fdB a b c i))) 12 0 11 (nI (n + 12)))) := by
  have k0 : Sn (d + 1) q_M_feed [.inr (12, 0), .inl a, .inl b, .inl c] I = Rn d q_M_feed 3 [some (.inr (12, 0)), some (.inl a), some (.inl b), some (.inl c), some (.inl (nI 0)), none] [] I := by
    simp (disch := omega) only [n_M_feed, e_M_feed_0, e_M_feed_2, lit, nad, nml, bd_s, ct_s, ct_n, a11, a01, aB2, bitA, nlt, nle, neq, dlT, dlF, deT, deF, dqT, dqF, nN, inb, nsb, ndv, nrm, if_true, if_false, ite_true, ite_false, true_and, and_true, and_self, and_false, false_and, or_true, true_or, or_false, false_or, or_self, ↓reduceIte, eq_self, Nat.reduceAdd, Nat.reduceMul, Nat.reduceSub, Nat.reduceDiv, Nat.reduceMod, Nat.zero_add, Nat.mul_zero, not_true_eq_false, not_false_eq_true, up_T, up_F, wr_T, wr_F, ngE, ngE', ngL, ngL', ngQ, ngQ', h]
  rw [k0]
  refine lpX (n := 12) (σ := mm_I × Option mm_V) (fun i s => Rn d q_M_feed 3 [some (.inr (12, 0)), some (.inl a), some (.inl b), some (.inl c), some (.inl (nI i)), s.2] [] s.1) (fun i s => s.1 = wr I 52 0 n i (fun i => nI (fdB a b c i))) (fun r => r = _) ?_ ?_ 0 (I, none) (Nat.zero_le _) (wr_0 _ _ _ _ _).symm
  · rintro i ⟨J, v⟩ hi hV
    dsimp only at hV ⊢
    have h2 : J 12 0 11 = nI n := by rw [hV, wr_F (by omega)]; exact h
    have hm : i % 4 ≤ 3 := by omega
    refine Or.inr ⟨(mm_up J 52 0 (n + i) (nI (fdB a b c i)), some (.inl (if i < 4 then a else if i < 8 then b else c))), ?_, ?_⟩
    · dsimp only
      rw [hV]
      exact wr_s I 52 0 n i (fun i => nI (fdB a b c i))
    · dsimp only
      unfold fdB
      by_cases e : i < 4
      · simp (disch := omega) only [e_M_feed_4, e_M_feed_5, e_M_feed_6, e_M_feed_7, e_M_feed_8, e_M_feed_9, e_M_feed_3 (x4 := nI i), lit, nad, nml, bd_s, ct_s, ct_n, a11, a01, aB2, bitA, nlt, nle, neq, dlT, dlF, deT, deF, dqT, dqF, nN, inb, nsb, ndv, nrm, if_true, if_false, ite_true, ite_false, true_and, and_true, and_self, and_false, false_and, or_true, true_or, or_false, false_or, or_self, ↓reduceIte, eq_self, Nat.reduceAdd, Nat.reduceMul, Nat.reduceSub, Nat.reduceDiv, Nat.reduceMod, Nat.zero_add, Nat.mul_zero, not_true_eq_false, not_false_eq_true, up_T, up_F, wr_T, wr_F, ngE, ngE', ngL, ngL', ngQ, ngQ', h2, md4, by_M]
      · by_cases e2 : i < 8
        · simp (disch := omega) only [e_M_feed_4, e_M_feed_5, e_M_feed_6, e_M_feed_7, e_M_feed_8, e_M_feed_9, e_M_feed_3 (x4 := nI i), lit, nad, nml, bd_s, ct_s, ct_n, a11, a01, aB2, bitA, nlt, nle, neq, dlT, dlF, deT, deF, dqT, dqF, nN, inb, nsb, ndv, nrm, if_true, if_false, ite_true, ite_false, true_and, and_true, and_self, and_false, false_and, or_true, true_or, or_false, false_or, or_self, ↓reduceIte, eq_self, Nat.reduceAdd, Nat.reduceMul, Nat.reduceSub, Nat.reduceDiv, Nat.reduceMod, Nat.zero_add, Nat.mul_zero, not_true_eq_false, not_false_eq_true, up_T, up_F, wr_T, wr_F, ngE, ngE', ngL, ngL', ngQ, ngQ', h2, md4, by_M]
        · simp (disch := omega) only [e_M_feed_4, e_M_feed_5, e_M_feed_6, e_M_feed_7, e_M_feed_8, e_M_feed_9, e_M_feed_3 (x4 := nI i), lit, nad, nml, bd_s, ct_s, ct_n, a11, a01, aB2, bitA, nlt, nle, neq, dlT, dlF, deT, deF, dqT, dqF, nN, inb, nsb, ndv, nrm, if_true, if_false, ite_true, ite_false, true_and, and_true, and_self, and_false, false_and, or_true, true_or, or_false, false_or, or_self, ↓reduceIte, eq_self, Nat.reduceAdd, Nat.reduceMul, Nat.reduceSub, Nat.reduceDiv, Nat.reduceMod, Nat.zero_add, Nat.mul_zero, not_true_eq_false, not_false_eq_true, up_T, up_F, wr_T, wr_F, ngE, ngE', ngL, ngL', ngQ, ngQ', h2, md4, by_M]
  · rintro ⟨J, v⟩ hV
    dsimp only at hV ⊢
    have h2 : J 12 0 11 = nI n := by rw [hV, wr_F (by omega)]; exact h
    simp (disch := omega) only [e_M_feed_3, e_M_feed_10, lit, nad, nml, bd_s, ct_s, ct_n, a11, a01, aB2, bitA, nlt, nle, neq, dlT, dlF, deT, deF, dqT, dqF, nN, inb, nsb, ndv, nrm, if_true, if_false, ite_true, ite_false, true_and, and_true, and_self, and_false, false_and, or_true, true_or, or_false, false_or, or_self, ↓reduceIte, eq_self, Nat.reduceAdd, Nat.reduceMul, Nat.reduceSub, Nat.reduceDiv, Nat.reduceMod, Nat.zero_add, Nat.mul_zero, not_true_eq_false, not_false_eq_true, up_T, up_F, wr_T, wr_F, ngE, ngE', ngL, ngL', ngQ, ngQ', h2]
    rw [hV]
theorem Ok_feed (d : Nat) (a b c : Int32) : Ok (d + 200) q_H_feed q_M_feed [.inl a, .inl b, .inl c] := by
  rintro I ⟨hr, hA⟩
  obtain ⟨n, T, n1, n2, n3, n4⟩ := hr.2.2.1
  by_cases e : n + 12 ≤ 96
  · obtain ⟨I1, a1, a2, a3, a4⟩ := s_H_feed (d + 198) n a b c I n2 e
    have b1 := s_M_feed (d + 199) n a b c I1 (by rw [a4 _ _ _ (by omega) (by omega)]; exact n3) e
    refine ⟨nI (n + 12), I1, _, a1, b1, ⟨Fix_up (Fix_wr (Fix_o hr.1 (fun r j _ => a4 _ _ _ (by omega) (by omega))) (by omega)) (by omega), Kst_eq hr.2.1 (fun k i j q => ?_), ⟨n + 12, fun k => if k < n then T k else fdB a b c (k - n), by omega, ?_, ?_, fun k hk => ?_⟩, Cnt_eq hr.2.2.2.1 (fun k i j q => ?_), Hts_eq hr.2.2.2.2.1 (fun k i j q => ?_), Num_eq hr.2.2.2.2.2 (fun k i j q => ?_)⟩, Inv_A hA (fun k i j q => ?_)⟩
    · unfold kstC at q; rw [up_F (by omega), wr_F (by omega), a4 _ _ _ (by omega) (by omega)]
    · rw [up_F (by omega), wr_F (by omega)]; exact a2
    · rw [up_s]
    · rw [up_F (by omega), wr_F (by omega), up_F (by omega)]
      by_cases q : k < n
      · simp only [if_pos q]
        rw [wr_F (by omega), a4 _ _ _ (by omega) (by omega), a4 _ _ _ (by omega) (by omega)]
        exact n4 k q
      · simp only [if_neg q]
        rw [wr_T (by omega)]
        refine ⟨fdB_b _ _ _ _, ?_, rfl⟩
        have := a3 (k - n) (by omega)
        rw [show n + (k - n) = k by omega] at this
        exact this
    · unfold cntC at q; rw [up_F (by omega), wr_F (by omega), a4 _ _ _ (by omega) (by omega)]
    · unfold htsC at q; rw [up_F (by omega), wr_F (by omega), a4 _ _ _ (by omega) (by omega)]
    · unfold numC at q; rw [up_F (by omega), wr_F (by omega), a4 _ _ _ (by omega) (by omega)]
    · unfold hc at q; rw [up_F (by omega), wr_F (by omega), a4 _ _ _ (by omega) (by omega)]
  · refine ⟨-nI 1000000003, I, I, ?_, ?_, hr, hA⟩
    · simp (disch := omega) only [n_H_feed, e_H_feed_0, e_H_feed_1, e_H_feed_2, e_H_feed_3, e_H_feed_4, e_H_feed_5, lit, nad, nml, bd_s, ct_s, ct_n, a11, a01, aB2, bitA, nlt, nle, neq, dlT, dlF, deT, deF, dqT, dqF, nN, inb, nsb, ndv, nrm, if_true, if_false, ite_true, ite_false, true_and, and_true, and_self, and_false, false_and, or_true, true_or, or_false, false_or, or_self, ↓reduceIte, eq_self, Nat.reduceAdd, Nat.reduceMul, Nat.reduceSub, Nat.reduceDiv, Nat.reduceMod, Nat.zero_add, Nat.mul_zero, not_true_eq_false, not_false_eq_true, up_T, up_F, wr_T, wr_F, ngE, ngE', ngL, ngL', ngQ, ngQ', n2]
    · simp (disch := omega) only [n_M_feed, e_M_feed_0, e_M_feed_1, e_M_feed_2, e_M_feed_3, e_M_feed_4, e_M_feed_5, e_M_feed_6, e_M_feed_7, e_M_feed_8, e_M_feed_9, e_M_feed_10, lit, nad, nml, bd_s, ct_s, ct_n, a11, a01, aB2, bitA, nlt, nle, neq, dlT, dlF, deT, deF, dqT, dqF, nN, inb, nsb, ndv, nrm, if_true, if_false, ite_true, ite_false, true_and, and_true, and_self, and_false, false_and, or_true, true_or, or_false, false_or, or_self, ↓reduceIte, eq_self, Nat.reduceAdd, Nat.reduceMul, Nat.reduceSub, Nat.reduceDiv, Nat.reduceMod, Nat.zero_add, Nat.mul_zero, not_true_eq_false, not_false_eq_true, up_T, up_F, wr_T, wr_F, ngE, ngE', ngL, ngL', ngQ, ngQ', n3]
