/-! A stretch, in the class and in the reference. -/
theorem eff_b {l s w : Nat} (hl : l ≤ 99) (hs : s ≤ 9) : l * 10 ≤ l * (10 + s) ∧ l * (10 + s) ≤ 1881 := ⟨Nat.mul_le_mul_left _ (by omega), Nat.le_trans (Nat.mul_le_mul hl (show 10 + s ≤ 19 by omega)) (by decide)⟩
theorem s_M_effortBy (d k l s w : Nat) (I : mm_I) (hk : k ≤ 4) (hl : l ≤ 99) (hs : s ≤ 9) (hw : w ≤ 9999) : Sn (d + 1) q_M_effortBy [.inl (nI k), .inl (nI l), .inl (nI s), .inl (nI w)] I = some (some (.inl (nI (effN k l s w))), (sh0, I)) := by
  have h1 := eff_b (w := w) hl hs
  simp (disch := omega) only [n_M_effortBy, e_M_effortBy_0, e_M_effortBy_1, e_M_effortBy_2, e_M_effortBy_3, e_M_effortBy_4, e_M_effortBy_5, lit, nad, nml, bd_s, ct_s, ct_n, b11, b01, nlt, nle, neq, nN, inb, nsb, ndv, nrm, if_true, if_false, ite_true, ite_false, true_and, and_true, reduceIte, Nat.reduceEqDiff, Nat.reduceLT, Nat.reduceLeDiff, eq_self, Nat.reduceAdd, Nat.reduceMul, Nat.reduceSub, effN]
  rcases (show k = 0 ∨ k = 1 ∨ k = 2 ∨ k = 3 ∨ k = 4 by omega) with e | e | e | e | e <;> subst e <;> simp (disch := omega) [nad, nsb, ndv]
theorem s_Stretch_effort (d r : Nat) (f : Nat → Nat) (I : mm_I) (h : StC I r f) (g : StG f) : Sn (d + 1) q_Stretch_effort [.inr (8, r)] I = some (some (.inl (nI (effF f))), (sh0, I)) := by
  obtain ⟨h0, h1, h2, h3, h4, h5, h6, h7, h8⟩ := h
  obtain ⟨g0, g1, g2, g3, g4, g5, g6, g7, g8, g9, g10, g11⟩ := g
  have hb := eff_b (w := f 5) g4 g5
  simp (disch := omega) only [n_Stretch_effort, e_Stretch_effort_0, e_Stretch_effort_1, e_Stretch_effort_2, e_Stretch_effort_3, e_Stretch_effort_4, e_Stretch_effort_5, h2, h3, h5, h8, lit, nad, nml, bd_s, ct_s, ct_n, b11, b01, nlt, nle, neq, nN, inb, nsb, ndv, nrm, if_true, if_false, ite_true, ite_false, true_and, and_true, reduceIte, Nat.reduceEqDiff, Nat.reduceLT, Nat.reduceLeDiff, eq_self, Nat.reduceAdd, Nat.reduceMul, Nat.reduceSub, effF, effN]
  rcases (show f 8 = 0 ∨ f 8 = 1 ∨ f 8 = 2 ∨ f 8 = 3 ∨ f 8 = 4 by omega) with e | e | e | e | e <;> rw [e] <;> simp (disch := omega) [nad, nsb, ndv]
theorem eff_pos {f : Nat → Nat} (g : StG f) : 4 ≤ effF f ∧ effF f ≤ 2925 := by
  obtain ⟨g0, g1, g2, g3, g4, g5, g6, g7, g8, g9, g10, g11⟩ := g
  have hb := eff_b (w := f 5) g4 g5
  unfold effF effN
  split
  · omega
  split
  · omega
  split
  · omega
  split
  · omega
  · omega
theorem shl_o {o : Nat} (h : o ≤ 2) : nI 1 <<< (nI o &&& nI 31) = nI (2 ^ o) := by
  rcases (show o = 0 ∨ o = 1 ∨ o = 2 by omega) with e | e | e <;> subst e <;> rfl
theorem wr_b {b s o : Nat} (hb : b ≤ 1079892) (hs : s ≤ 9) (ho : o ≤ 2) : b * (s + 1) * 2 ^ o ≤ 43195680 := by
  have h1 : b * (s + 1) ≤ 1079892 * 10 := Nat.mul_le_mul hb (by omega)
  have h2 : 2 ^ o ≤ 2 ^ 2 := Nat.pow_le_pow_right (by omega) ho
  exact Nat.le_trans (Nat.mul_le_mul h1 h2) (by decide)
theorem wr_c {r s : Nat} (hr : r ≤ 20) (hs : s ≤ 9) : r * s ≤ 180 := Nat.mul_le_mul hr hs
theorem grd0 {p r : Nat} [Decidable (nI 0 < nI p - nI r)] (hp : p < 1000000000) (hr : r < 1000000000) : (if nI 0 < nI p - nI r then nI p - nI r else nI 0) = nI (p - r) := by
  rcases Nat.lt_or_ge r p with h | h
  · have e : nI p - nI r = nI (p - r) := nsb (by omega)
    rw [if_pos (by rw [e, nlt (by omega) (by omega)]; omega), e]
  · have e : p - r = 0 := by omega
    rcases Nat.eq_or_lt_of_le h with h2 | h2
    · have e2 : nI p - nI r = nI 0 := by rw [nsb (by omega), e]
      rw [if_neg (by rw [e2]; exact Int32.lt_irrefl), e]
    · rw [e, if_neg]
      have := pk_sneg (a := p) (b := r) (by omega) h2
      rw [Int32.not_lt]
      exact Int32.le_of_lt this
theorem s_M_greater (d : Nat) (x y : Int32) (I : mm_I) : Sn (d + 1) q_M_greater [.inl x, .inl y] I = some (some (.inl (if y < x then x else y)), (sh0, I)) := by
  simp only [n_M_greater, e_M_greater_0, e_M_greater_1, e_M_greater_2, e_M_greater_3]
  by_cases h : y < x <;> simp [h]
theorem s_M_lesser (d : Nat) (x y : Int32) (I : mm_I) : Sn (d + 1) q_M_lesser [.inl x, .inl y] I = some (some (.inl (if x < y then x else y)), (sh0, I)) := by
  simp only [n_M_lesser, e_M_lesser_0, e_M_lesser_1, e_M_lesser_2, e_M_lesser_3]
  by_cases h : x < y <;> simp [h]
theorem grd1 {p r : Nat} [Decidable (nI p - nI r < nI 0)] (hp : p < 1000000000) (hr : r < 1000000000) : (if nI p - nI r < nI 0 then nI 0 else nI p - nI r) = nI (p - r) := by
  rcases Nat.lt_or_ge p r with h | h
  · have e : p - r = 0 := by omega
    rw [e, if_pos (show nI p - nI r < nI 0 from pk_sneg (by omega) h)]
  · have e : nI p - nI r = nI (p - r) := nsb h
    rw [if_neg (by rw [e, nlt (by omega) (by omega)]; omega), e]
theorem s_Stretch_wear (d r b n : Nat) (f : Nat → Nat) (I : mm_I) (h : StC I r f) (g : StG f) (hb : b ≤ 1079892) (hn : n ≤ 20) : Sn (d + 1) q_Stretch_wear [.inr (8, r), .inl (nI b), .inl (nI n)] I = some (some (.inl (nI (wrF f b n))), (sh0, I)) := by
  obtain ⟨h0, h1, h2, h3, h4, h5, h6, h7, h8⟩ := h
  obtain ⟨g0, g1, g2, g3, g4, g5, g6, g7, g8, g9, g10, g11⟩ := g
  have hw := wr_b (o := f 4) hb g5 g6
  have hc := wr_c hn g5
  simp (disch := omega) only [n_Stretch_wear, e_Stretch_wear_0, e_Stretch_wear_1, e_Stretch_wear_2, e_Stretch_wear_3, e_Stretch_wear_4, e_Stretch_wear_5, h3, h4, h8, lit, nad, nml, bd_s, ct_s, ct_n, b11, b01, nlt, nle, neq, nN, inb, nsb, ndv, nrm, if_true, if_false, ite_true, ite_false, true_and, and_true, reduceIte, Nat.reduceEqDiff, Nat.reduceLT, Nat.reduceLeDiff, eq_self, Nat.reduceAdd, Nat.reduceMul, Nat.reduceSub, shl_o g6, wrF, wrN]
  rcases (show f 8 = 0 ∨ f 8 = 1 ∨ f 8 = 2 ∨ f 8 = 3 ∨ f 8 = 4 by omega) with e | e | e | e | e <;> rw [e] <;> simp (disch := omega) [nad, nsb, ndv, grd0]
theorem s_M_wearBy (d k s o b n : Nat) (I : mm_I) (hk : k ≤ 4) (hs : s ≤ 9) (ho : o ≤ 2) (hb : b ≤ 1079892) (hn : n ≤ 20) : Sn (d + 2) q_M_wearBy [.inl (nI k), .inl (nI s), .inl (nI o), .inl (nI b), .inl (nI n)] I = some (some (.inl (nI (wrN k s o b n))), (sh0, I)) := by
  have hw := wr_b (o := o) hb hs ho
  have hc := wr_c hn hs
  have h2 : ∀ z : Int32, (if o = 0 then Rn (d + 1) q_M_wearBy 3 [some (.inl (nI k)), some (.inl (nI s)), some (.inl (nI o)), some (.inl (nI b)), some (.inl (nI n)), none, none] [.inl (nI 1), .inl z] I else Rn (d + 1) q_M_wearBy 3 [some (.inl (nI k)), some (.inl (nI s)), some (.inl (nI o)), some (.inl (nI b)), some (.inl (nI n)), none, none] [.inl (nI (2 * o)), .inl z] I) = Rn (d + 1) q_M_wearBy 3 [some (.inl (nI k)), some (.inl (nI s)), some (.inl (nI o)), some (.inl (nI b)), some (.inl (nI n)), none, none] [.inl (nI (2 ^ o)), .inl z] I := by
    intro z
    rcases (show o = 0 ∨ o = 1 ∨ o = 2 by omega) with e | e | e <;> subst e <;> rfl
  simp (disch := omega) only [n_M_wearBy, e_M_wearBy_0, e_M_wearBy_1, e_M_wearBy_2, lit, nad, nml, bd_s, ct_s, ct_n, b11, b01, nlt, nle, neq, nN, inb, nsb, ndv, nrm, if_true, if_false, ite_true, ite_false, true_and, and_true, reduceIte, Nat.reduceEqDiff, Nat.reduceLT, Nat.reduceLeDiff, eq_self, Nat.reduceAdd, Nat.reduceMul, Nat.reduceSub, h2]
  simp (disch := omega) only [n_M_wearBy, e_M_wearBy_0, e_M_wearBy_1, e_M_wearBy_2, e_M_wearBy_3, e_M_wearBy_4, e_M_wearBy_5, e_M_wearBy_6, e_M_wearBy_7, e_M_wearBy_8, e_M_wearBy_9, s_M_greater, lit, nad, nml, bd_s, ct_s, ct_n, b11, b01, nlt, nle, neq, nN, inb, nsb, ndv, nrm, if_true, if_false, ite_true, ite_false, true_and, and_true, reduceIte, Nat.reduceEqDiff, Nat.reduceLT, Nat.reduceLeDiff, eq_self, Nat.reduceAdd, Nat.reduceMul, Nat.reduceSub, wrN, grd1]
  rcases (show k = 0 ∨ k = 1 ∨ k = 2 ∨ k = 3 ∨ k = 4 by omega) with e | e | e | e | e <;> subst e <;> simp (disch := omega) [nad, nsb, ndv]
theorem wr_le {k s o b n : Nat} (hs : s ≤ 9) (ho : o ≤ 2) (hb : b ≤ 1079892) (hn : n ≤ 20) : wrN k s o b n ≤ 432000 := by
  have hw := wr_b (o := o) hb hs ho
  have hc := wr_c hn hs
  unfold wrN
  split
  · omega
  split
  · omega
  split
  · omega
  split
  · omega
  · omega
theorem s_Stretch_wearAndBare (d r b n : Nat) (f : Nat → Nat) (I : mm_I) (h : StC I r f) (g : StG f) (hb : b ≤ 1079892) (hn : n ≤ 20) : Sn (d + 2) q_Stretch_wearAndBare [.inr (8, r), .inl (nI b), .inl (nI n)] I = some (some (.inl (nI (wrF f b n + brN (f 5)))), (sh0, I)) := by
  have hs := s_Stretch_wear d r b n f I h g hb hn
  obtain ⟨h0, h1, h2, h3, h4, h5, h6, h7, h8⟩ := h
  obtain ⟨g0, g1, g2, g3, g4, g5, g6, g7, g8, g9, g10, g11⟩ := g
  simp (disch := omega) only [n_Stretch_wearAndBare, e_Stretch_wearAndBare_0, e_Stretch_wearAndBare_1, e_Stretch_wearAndBare_2, e_Stretch_wearAndBare_3, e_Stretch_wearAndBare_4, hs, h5, lit, nad, nml, bd_s, ct_s, ct_n, b11, b01, nlt, nle, neq, nN, inb, nsb, ndv, nrm, if_true, if_false, ite_true, ite_false, true_and, and_true, reduceIte, Nat.reduceEqDiff, Nat.reduceLT, Nat.reduceLeDiff, eq_self, Nat.reduceAdd, Nat.reduceMul, Nat.reduceSub, brN]
  by_cases e : 60 < f 5 <;> simp [e]
theorem s_Stretch_grow (d r b n : Nat) (f : Nat → Nat) (I : mm_I) (h : StC I r f) (g : StG f) (hb : b ≤ 1079892) (hn : n ≤ 20) : Sn (d + 3) q_Stretch_grow [.inr (8, r), .inl (nI b), .inl (nI n)] I = some (none, (sh0, mm_up I 8 r 6 (nI (wdN (f 5) (wrF f b n + brN (f 5)))))) := by
  have hs := s_Stretch_wearAndBare d r b n f I h g hb hn
  have hwl := wr_le (k := f 8) g.2.2.2.2.2.1 g.2.2.2.2.2.2.1 hb hn
  obtain ⟨h0, h1, h2, h3, h4, h5, h6, h7, h8⟩ := h
  obtain ⟨g0, g1, g2, g3, g4, g5, g6, g7, g8, g9, g10, g11⟩ := g
  have hbr : brN (f 5) ≤ 1000 := by unfold brN; split <;> omega
  simp (disch := omega) only [n_Stretch_grow, e_Stretch_grow_0, e_Stretch_grow_1, hs, h5, lit, nad, nml, bd_s, ct_s, ct_n, b11, b01, wdN]
  have hle : wrF f b n ≤ 432000 := hwl
  simp (disch := omega) only [nle]
  split <;> rfl
theorem s_M_widerBy (d k s o w b n : Nat) (I : mm_I) (hk : k ≤ 4) (hs : s ≤ 9) (ho : o ≤ 2) (hw : w ≤ 9999) (hb : b ≤ 1079892) (hn : n ≤ 20) : Sn (d + 3) q_M_widerBy [.inl (nI k), .inl (nI s), .inl (nI o), .inl (nI w), .inl (nI b), .inl (nI n)] I = some (some (.inl (nI (wdN w (wrN k s o b n + brN w)))), (sh0, I)) := by
  have hwl := wr_le (k := k) hs ho hb hn
  have hx := s_M_wearBy d k s o b n I hk hs ho hb hn
  have h1 : Rn (d + 2) q_M_widerBy 1 [some (.inl (nI k)), some (.inl (nI s)), some (.inl (nI o)), some (.inl (nI w)), some (.inl (nI b)), some (.inl (nI n)), none] [.inl (nI (wrN k s o b n))] I = Rn (d + 2) q_M_widerBy 4 [some (.inl (nI k)), some (.inl (nI s)), some (.inl (nI o)), some (.inl (nI w)), some (.inl (nI b)), some (.inl (nI n)), none] [.inl (nI (brN w)), .inl (nI (wrN k s o b n))] I := by
    simp (disch := omega) only [e_M_widerBy_1, e_M_widerBy_2, e_M_widerBy_3, lit, nad, nml, bd_s, ct_s, ct_n, b11, b01, nlt, nle, neq, nN, inb, nsb, ndv, nrm, if_true, if_false, ite_true, ite_false, true_and, and_true, reduceIte, Nat.reduceEqDiff, Nat.reduceLT, Nat.reduceLeDiff, eq_self, Nat.reduceAdd, Nat.reduceMul, Nat.reduceSub, brN]
    by_cases e : 60 < w <;> simp [e]
  have hbr : brN w ≤ 1000 := by unfold brN; split <;> omega
  simp only [n_M_widerBy, e_M_widerBy_0, hx, bd_s, ct_s, h1]
  simp (disch := omega) only [n_M_widerBy, e_M_widerBy_0, e_M_widerBy_1, e_M_widerBy_2, e_M_widerBy_3, e_M_widerBy_4, e_M_widerBy_5, s_M_lesser, lit, nad, nml, bd_s, ct_s, ct_n, b11, b01, nlt, nle, neq, nN, inb, nsb, ndv, nrm, if_true, if_false, ite_true, ite_false, true_and, and_true, reduceIte, Nat.reduceEqDiff, Nat.reduceLT, Nat.reduceLeDiff, eq_self, Nat.reduceAdd, Nat.reduceMul, Nat.reduceSub, wdN]
  by_cases e : 9999 < w + (wrN k s o b n + brN w)
  · rw [if_pos e, if_pos (by omega)]
  · rw [if_neg e]
    by_cases e2 : 9999 ≤ w + (wrN k s o b n + brN w)
    · rw [if_pos e2, show w + (wrN k s o b n + brN w) = 9999 by omega]
    · rw [if_neg e2]
theorem s_Stretch_holds (d r : Nat) (f : Nat → Nat) (I : mm_I) (h : StC I r f) (g : StG f) : Sn (d + 2) q_Stretch_holds [.inr (8, r)] I = some (some (.inl (hdF f)), (sh0, I)) := by
  have hs := s_Stretch_wear d r 100 5 f I h g (by omega) (by omega)
  obtain ⟨h0, h1, h2, h3, h4, h5, h6, h7, h8⟩ := h
  obtain ⟨g0, g1, g2, g3, g4, g5, g6, g7, g8, g9, g10, g11⟩ := g
  have hq : Sn (d + 2) q_Stretch_holds [.inr (8, r)] I = Rn (d + 1) q_Stretch_holds 3 [some (.inr (8, r)), none] [.inl (nI (if f 4 = 0 then 5 else 0)), .inl (nI (20 - 2 * f 3))] I := by
    simp (disch := omega) only [n_Stretch_holds, e_Stretch_holds_0, e_Stretch_holds_1, e_Stretch_holds_2, h3, h4, lit, nad, nml, bd_s, ct_s, ct_n, b11, b01, nlt, nle, neq, nN, inb, nsb, ndv, nrm, if_true, if_false, ite_true, ite_false, true_and, and_true, reduceIte, Nat.reduceEqDiff, Nat.reduceLT, Nat.reduceLeDiff, eq_self, Nat.reduceAdd, Nat.reduceMul, Nat.reduceSub]
    by_cases e : f 4 = 0 <;> simp [e]
  rw [hq]
  simp (disch := omega) only [e_Stretch_holds_3, e_Stretch_holds_4, e_Stretch_holds_5, e_Stretch_holds_6, e_Stretch_holds_7, e_Stretch_holds_8, e_Stretch_holds_9, h2, h8, hs, lit, nad, nml, bd_s, ct_s, ct_n, b11, b01, nlt, nle, neq, nN, inb, nsb, ndv, nrm, if_true, if_false, ite_true, ite_false, true_and, and_true, reduceIte, Nat.reduceEqDiff, Nat.reduceLT, Nat.reduceLeDiff, eq_self, Nat.reduceAdd, Nat.reduceMul, Nat.reduceSub, hdF, hdN, wrF]
  rcases (show f 8 = 0 ∨ f 8 = 1 ∨ f 8 = 2 ∨ f 8 = 3 ∨ f 8 = 4 by omega) with e | e | e | e | e <;> rw [e] <;> simp
theorem s_M_holdsBy (d k l s o : Nat) (I : mm_I) (hk : k ≤ 4) (hl : l ≤ 99) (hs : s ≤ 9) (ho : o ≤ 2) : Sn (d + 3) q_M_holdsBy [.inl (nI k), .inl (nI l), .inl (nI s), .inl (nI o)] I = some (some (.inl (hdN k l s o)), (sh0, I)) := by
  have hx := s_M_wearBy d k s o 100 5 I hk hs ho (by omega) (by omega)
  have hq : Sn (d + 3) q_M_holdsBy [.inl (nI k), .inl (nI l), .inl (nI s), .inl (nI o)] I = Rn (d + 2) q_M_holdsBy 3 [some (.inl (nI k)), some (.inl (nI l)), some (.inl (nI s)), some (.inl (nI o)), none, none] [.inl (nI (if o = 0 then 5 else 0)), .inl (nI (20 - 2 * s))] I := by
    simp (disch := omega) only [n_M_holdsBy, e_M_holdsBy_0, e_M_holdsBy_1, e_M_holdsBy_2, lit, nad, nml, bd_s, ct_s, ct_n, b11, b01, nlt, nle, neq, nN, inb, nsb, ndv, nrm, if_true, if_false, ite_true, ite_false, true_and, and_true, reduceIte, Nat.reduceEqDiff, Nat.reduceLT, Nat.reduceLeDiff, eq_self, Nat.reduceAdd, Nat.reduceMul, Nat.reduceSub]
    by_cases e : o = 0 <;> simp [e]
  rw [hq]
  simp (disch := omega) only [e_M_holdsBy_3, e_M_holdsBy_4, e_M_holdsBy_5, e_M_holdsBy_6, e_M_holdsBy_7, e_M_holdsBy_8, hx, lit, nad, nml, bd_s, ct_s, ct_n, b11, b01, nlt, nle, neq, nN, inb, nsb, ndv, nrm, if_true, if_false, ite_true, ite_false, true_and, and_true, reduceIte, Nat.reduceEqDiff, Nat.reduceLT, Nat.reduceLeDiff, eq_self, Nat.reduceAdd, Nat.reduceMul, Nat.reduceSub, hdN]
  rcases (show k = 0 ∨ k = 1 ∨ k = 2 ∨ k = 3 ∨ k = 4 by omega) with e | e | e | e | e <;> subst e <;> simp
