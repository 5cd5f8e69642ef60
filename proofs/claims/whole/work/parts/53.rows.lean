/-! Rows of the class; counts and sums. -/
theorem t7 {t : Nat} (h : t < 7) : t = 0 ∨ t = 1 ∨ t = 2 ∨ t = 3 ∨ t = 4 ∨ t = 5 ∨ t = 6 := by omega
theorem tMW {r : Nat} (h : r < 21) : sc_cells r = tM (r % 7) * tW (r % 7) ∧ tM (r % 7) ≤ 20 ∧ tW (r % 7) ≤ 4 := by
  unfold sc_cells tM tW
  rcases t7 (Nat.mod_lt r (show 0 < 7 by decide)) with e | e | e | e | e | e | e <;> rw [e] <;> decide
theorem idx {i M c w : Nat} (h : i < M) (h2 : c < w) : i * w + c < M * w := by
  have h3 : (i + 1) * w ≤ M * w := Nat.mul_le_mul_right _ h
  rw [Nat.succ_mul] at h3
  omega
theorem s_Rows_has (d r i n : Nat) (I : mm_I) (hm : I 7 r 3 = nI n) (hn : n ≤ 20) (hi : i < 2147483648) : Sn (d + 1) q_Rows_has [.inr (7, r), .inl (nI i)] I = some (some (.inl (if i < n then 1 else 0)), (sh0, I)) := by
  simp (disch := omega) only [n_Rows_has, e_Rows_has_0, e_Rows_has_1, e_Rows_has_2, e_Rows_has_3, e_Rows_has_4, hm, lit, nad, nml, bd_s, ct_s, ct_n, b11, b01, nlt, nle, neq, nN, inb, nsb, ndv, nrm, if_true, if_false, ite_true, ite_false, true_and, and_true, reduceIte, Nat.reduceEqDiff, Nat.reduceLT, Nat.reduceLeDiff, eq_self, Nat.reduceAdd, Nat.reduceMul, Nat.reduceSub, Nat.not_lt_zero]
  split <;> rfl
theorem s_Rows_isFull (d r n m : Nat) (I : mm_I) (h1 : I 7 r 1 = nI m) (hm : I 7 r 3 = nI n) (hn : n ≤ 20) (hm2 : m ≤ 20) : Sn (d + 1) q_Rows_isFull [.inr (7, r)] I = some (some (.inl (if n < m then 0 else 1)), (sh0, I)) := by
  simp (disch := omega) only [n_Rows_isFull, e_Rows_isFull_0, e_Rows_isFull_1, e_Rows_isFull_2, e_Rows_isFull_3, hm, h1, lit, nad, nml, bd_s, ct_s, ct_n, b11, b01, nlt, nle, neq, nN, inb, nsb, ndv, nrm, if_true, if_false, ite_true, ite_false, true_and, and_true, reduceIte, Nat.reduceEqDiff, Nat.reduceLT, Nat.reduceLeDiff, eq_self, Nat.reduceAdd, Nat.reduceMul, Nat.reduceSub]
  split <;> rfl
theorem wi_n {i a b : Nat} (hi : i < 2147483648) (ha : a < 2147483648) (hb : b < 2147483648) : (nI a ≤ nI i ∧ nI i ≤ nI b) = (a ≤ i ∧ i ≤ b) := by rw [nle ha hi, nle hi hb]
theorem s_Rows_at (d r i c n : Nat) (I : mm_I) (hr : r < 21) (F : Fix I) (hm : I 7 r 3 = nI n) (hn : n ≤ tM (r % 7)) (hi : i < n) (hc : c < tW (r % 7)) : Sn (d + 2) q_Rows_at [.inr (7, r), .inl (nI i), .inl (nI c)] I = some (some (.inl (I 37 r (i * tW (r % 7) + c))), (sh0, I)) := by
  obtain ⟨f1, f2⟩ := F r hr
  obtain ⟨m1, m2, m3⟩ := tMW hr
  have hx := idx (c := c) (Nat.lt_of_lt_of_le hi hn) hc
  have hb : tM (r % 7) * tW (r % 7) ≤ 20 * 4 := Nat.mul_le_mul m2 m3
  simp (disch := omega) only [n_Rows_at, e_Rows_at_0, e_Rows_at_1, e_Rows_at_2, e_Rows_at_3, e_Rows_at_4, e_Rows_at_5, e_Rows_at_6, f2, m1, lit, nad, nml, bd_s, ct_s, ct_n, b11, b01, s_Rows_has (n := n) (hm := hm), s_H_within, nsb, wi_n, hi, hx, lit, nad, nml, bd_s, ct_s, ct_n, b11, b01, nlt, nle, neq, nN, inb, nsb, ndv, nrm, if_true, if_false, ite_true, ite_false, true_and, and_true, reduceIte, Nat.reduceEqDiff, Nat.reduceLT, Nat.reduceLeDiff, eq_self, Nat.reduceAdd, Nat.reduceMul, Nat.reduceSub, Nat.zero_le, show c ≤ tW (r % 7) - 1 by omega]
theorem s_Rows_put (d r i c n : Nat) (x : Int32) (I : mm_I) (hr : r < 21) (F : Fix I) (hm : I 7 r 3 = nI n) (hn : n ≤ tM (r % 7)) (hi : i < n) (hc : c < tW (r % 7)) : Sn (d + 3) q_Rows_put [.inr (7, r), .inl (nI i), .inl (nI c), .inl x] I = some (some (.inl (I 37 r (i * tW (r % 7) + c))), (sh0, mm_up I 37 r (i * tW (r % 7) + c) x)) := by
  have ha := s_Rows_at d r i c n I hr F hm hn hi hc
  obtain ⟨f1, f2⟩ := F r hr
  obtain ⟨m1, m2, m3⟩ := tMW hr
  have hx := idx (c := c) (Nat.lt_of_lt_of_le hi hn) hc
  have hb : tM (r % 7) * tW (r % 7) ≤ 20 * 4 := Nat.mul_le_mul m2 m3
  simp (disch := omega) only [n_Rows_put, e_Rows_put_0, e_Rows_put_1, e_Rows_put_2, e_Rows_put_3, e_Rows_put_4, e_Rows_put_5, e_Rows_put_6, ha, f2, m1, lit, nad, nml, bd_s, ct_s, ct_n, b11, b01, s_Rows_has (n := n) (hm := hm), s_H_within, nsb, wi_n, hi, hx, lit, nad, nml, bd_s, ct_s, ct_n, b11, b01, nlt, nle, neq, nN, inb, nsb, ndv, nrm, if_true, if_false, ite_true, ite_false, true_and, and_true, reduceIte, Nat.reduceEqDiff, Nat.reduceLT, Nat.reduceLeDiff, eq_self, Nat.reduceAdd, Nat.reduceMul, Nat.reduceSub, Nat.zero_le, show c ≤ tW (r % 7) - 1 by omega]
def ad3 (x y z : Int32) (j : Nat) : Int32 := if j = 0 then x else if j = 1 then y else if j = 2 then z else nI 0
theorem s_Rows_add (d r n : Nat) (x y z : Int32) (I : mm_I) (hr : r < 21) (F : Fix I) (hm : I 7 r 3 = nI n) (hn : n ≤ tM (r % 7)) : Sn (d + 4) q_Rows_add [.inr (7, r), .inl x, .inl y, .inl z] I = if n < tM (r % 7) then some (some (.inl (nI n)), (sh0, wr (mm_up I 7 r 3 (nI (n + 1))) 37 r (n * tW (r % 7)) (tW (r % 7)) (ad3 x y z))) else some (some (.inl (-1000000003)), (sh0, I)) := by
  obtain ⟨f1, f2⟩ := F r hr
  obtain ⟨m1, m2, m3⟩ := tMW hr
  simp (disch := omega) only [n_Rows_add, e_Rows_add_0, e_Rows_add_1, e_Rows_add_2, e_Rows_add_3, s_Rows_isFull d.succ.succ r n (tM (r % 7)) I f1 hm, hm, lit, nad, nml, bd_s, ct_s, ct_n, b11, b01]
  by_cases e : n < tM (r % 7)
  · simp only [e, if_true]
    have F' : ∀ k, Fix (wr (mm_up I 7 r 3 (nI (n + 1))) 37 r (n * tW (r % 7)) k (ad3 x y z)) := by
      intro k q hq
      rw [wr_o (by omega), wr_o (by omega), up_n (by omega), up_n (by omega)]
      exact F q hq
    have hl := lpG (n := tW (r % 7)) (fun i (J : mm_I) => Rn (d + 3) q_Rows_add 4 [some (.inr (7, r)), some (.inl x), some (.inl y), some (.inl z), some (.inl (nI n)), some (.inl (nI i))] [] J) (fun k => wr (mm_up I 7 r 3 (nI (n + 1))) 37 r (n * tW (r % 7)) k (ad3 x y z)) (fun i hi => by
      have hp := s_Rows_put d r n i (n + 1) (ad3 x y z i) _ hr (F' i) (by rw [wr_o (by omega), up_s]) (by omega) (by omega) hi
      have h2 : (wr (mm_up I 7 r 3 (nI (n + 1))) 37 r (n * tW (r % 7)) i (ad3 x y z)) 7 r 2 = nI (tW (r % 7)) := (F' i r hr).2
      have hb : Rn (d + 3) q_Rows_add 5 [some (.inr (7, r)), some (.inl x), some (.inl y), some (.inl z), some (.inl (nI n)), some (.inl (nI i))] [] (wr (mm_up I 7 r 3 (nI (n + 1))) 37 r (n * tW (r % 7)) i (ad3 x y z)) = Rn (d + 3) q_Rows_add 12 [some (.inr (7, r)), some (.inl x), some (.inl y), some (.inl z), some (.inl (nI n)), some (.inl (nI i))] [.inl (ad3 x y z i), .inl (nI i), .inl (nI n), .inr (7, r)] (wr (mm_up I 7 r 3 (nI (n + 1))) 37 r (n * tW (r % 7)) i (ad3 x y z)) := by
        simp (disch := omega) only [e_Rows_add_5, e_Rows_add_6, e_Rows_add_7, e_Rows_add_8, e_Rows_add_9, e_Rows_add_10, e_Rows_add_11, lit, nad, nml, bd_s, ct_s, ct_n, b11, b01, nlt, nle, neq, nN, inb, nsb, ndv, nrm, if_true, if_false, ite_true, ite_false, true_and, and_true, reduceIte, Nat.reduceEqDiff, Nat.reduceLT, Nat.reduceLeDiff, eq_self, Nat.reduceAdd, Nat.reduceMul, Nat.reduceSub, ad3]
        by_cases e0 : i = 0
        · simp [e0]
        · by_cases e1 : i = 1
          · simp [e1]
          · by_cases e2 : i = 2 <;> simp [e0, e1, e2]
      simp (disch := omega) only [e_Rows_add_4 (x5 := nI i), h2, nlt, hi, if_true]
      rw [hb]
      simp (disch := omega) only [e_Rows_add_12, e_Rows_add_13, hp, lit, nad, nml, bd_s, ct_s, ct_n, b11, b01, wr_s]) 0 (Nat.zero_le _)
    have he : (wr (mm_up I 7 r 3 (nI (n + 1))) 37 r (n * tW (r % 7)) (tW (r % 7)) (ad3 x y z)) 7 r 2 = nI (tW (r % 7)) := (F' _ r hr).2
    have hl2 := hl.trans (show _ = some (some (.inl (nI n)), (sh0, wr (mm_up I 7 r 3 (nI (n + 1))) 37 r (n * tW (r % 7)) (tW (r % 7)) (ad3 x y z))) by
      simp (disch := omega) only [e_Rows_add_4, e_Rows_add_14, he, nlt, Nat.lt_irrefl, if_false])
    simp only [wr_0] at hl2
    exact hl2
  · simp only [e, if_false]
    rfl
/-- a row of the class, by its table -/
theorem s_at (d h t i c : Nat) (A : mm_A) (I : mm_I) (hC : RepC h A I) (F : Fix I) (g : Good A) (hh : h < 3) (ht : t < 7) (hi : i < A 0 0 (tH t)) (hc : c < tW t) : Sn (d + 2) q_Rows_at [.inr (7, 7 * h + t), .inl (nI i), .inl (nI c)] I = some (some (.inl (nI (A (4 + t) i c))), (sh0, I)) := by
  have e : (7 * h + t) % 7 = t := by omega
  have := s_Rows_at d (7 * h + t) i c _ I (by omega) F (hC.2.1 t ht) (by rw [e]; exact g.2.1 t ht) hi (by rw [e]; exact hc)
  rw [this, e, hC.2.2.2.2.2 t i c ht hi hc]
theorem s_Hills_widths (d h : Nat) (A : mm_A) (I : mm_I) (hC : RepC h A I) (g : Good A) : Sn (d + 1) q_Hills_widths [.inr (3, h)] I = some (some (.inl (nI (sm (fun p => A 1 p 5) (A 0 0 0)))), (sh0, I)) := by
  have hn := g.1.1
  have hl := lpG (n := A 0 0 0) (fun i (s : Nat) => Rn d q_Hills_widths 1 [some (.inr (3, h)), some (.inl (nI s)), some (.inl (nI i))] [] I) (sm (fun p => A 1 p 5)) (fun i hi => by
    have hs := (hC.2.2.1 i hi).2.2.2.2.2.1
    simp (disch := omega) only [e_Hills_widths_1 (x2 := nI i), e_Hills_widths_2, hC.1.1, hi, lit, nad, nml, bd_s, ct_s, ct_n, b11, b01, nlt, nle, neq, nN, inb, nsb, ndv, nrm, if_true, if_false, ite_true, ite_false, true_and, and_true, reduceIte, Nat.reduceEqDiff, Nat.reduceLT, Nat.reduceLeDiff, eq_self, Nat.reduceAdd, Nat.reduceMul, Nat.reduceSub, hs, sm]) 0 (Nat.zero_le _)
  rw [n_Hills_widths, e_Hills_widths_0]
  exact hl.trans (by simp (disch := omega) only [e_Hills_widths_1, e_Hills_widths_3, hC.1.1, lit, nad, nml, bd_s, ct_s, ct_n, b11, b01, nlt, nle, neq, nN, inb, nsb, ndv, nrm, if_true, if_false, ite_true, ite_false, true_and, and_true, reduceIte, Nat.reduceEqDiff, Nat.reduceLT, Nat.reduceLeDiff, eq_self, Nat.reduceAdd, Nat.reduceMul, Nat.reduceSub, Nat.lt_irrefl])
theorem s_Hills_shutCount (d h : Nat) (A : mm_A) (I : mm_I) (hC : RepC h A I) (g : Good A) : Sn (d + 1) q_Hills_shutCount [.inr (3, h)] I = some (some (.inl (nI (sm (fun p => A 1 p 7) (A 0 0 0)))), (sh0, I)) := by
  have hn := g.1.1
  have hl := lpG (n := A 0 0 0) (fun i (s : Nat) => Rn d q_Hills_shutCount 1 [some (.inr (3, h)), some (.inl (nI s)), some (.inl (nI i))] [] I) (sm (fun p => A 1 p 7)) (fun i hi => by
    have hs := (hC.2.2.1 i hi).2.2.2.2.2.2.2.1
    have hg := (g.2.2.1 i hi).2.2.2.2.2.2.2.2.2.2.1
    rcases (show A 1 i 7 = 0 ∨ A 1 i 7 = 1 by omega) with e | e <;> rw [e] at hs <;> simp (disch := omega) only [e_Hills_shutCount_1 (x2 := nI i), e_Hills_shutCount_2, e_Hills_shutCount_3, e_Hills_shutCount_4, hC.1.1, hi, lit, nad, nml, bd_s, ct_s, ct_n, b11, b01, nlt, nle, neq, nN, inb, nsb, ndv, nrm, if_true, if_false, ite_true, ite_false, true_and, and_true, reduceIte, Nat.reduceEqDiff, Nat.reduceLT, Nat.reduceLeDiff, eq_self, Nat.reduceAdd, Nat.reduceMul, Nat.reduceSub, hs, sm, e, Nat.add_zero, Nat.one_ne_zero]) 0 (Nat.zero_le _)
  rw [n_Hills_shutCount, e_Hills_shutCount_0]
  exact hl.trans (by simp (disch := omega) only [e_Hills_shutCount_1, e_Hills_shutCount_5, hC.1.1, lit, nad, nml, bd_s, ct_s, ct_n, b11, b01, nlt, nle, neq, nN, inb, nsb, ndv, nrm, if_true, if_false, ite_true, ite_false, true_and, and_true, reduceIte, Nat.reduceEqDiff, Nat.reduceLT, Nat.reduceLeDiff, eq_self, Nat.reduceAdd, Nat.reduceMul, Nat.reduceSub, Nat.lt_irrefl])
