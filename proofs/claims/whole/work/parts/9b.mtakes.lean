/-! The reference takes a text. -/
def RS (T : Nat → Nat) (n key : Nat) (x : LX) (W C : List Nat) (a : Nat) (I : mm_I) : Prop := TR T n I ∧ LR T x I ∧ I 12 0 17 = nI key ∧ RW W C I ∧ I 12 0 22 = nI a
theorem LR_e {T : Nat → Nat} {x : LX} {I I' : mm_I} (h : LR T x I) (e : ∀ j, 12 ≤ j → j ≤ 16 → I' 12 0 j = I 12 0 j) : LR T x I' := by
  unfold LR EN at *
  rw [e 12 (by omega) (by omega), e 13 (by omega) (by omega), e 14 (by omega) (by omega), e 15 (by omega) (by omega), e 16 (by omega) (by omega)]
  exact h
theorem TR_e {T : Nat → Nat} {n : Nat} {I I' : mm_I} (h : TR T n I) (e : I' 12 0 11 = I 12 0 11) (e2 : I' 52 = I 52) : TR T n I' := by
  unfold TR
  rw [e, e2]
  exact h
/-- a go in a state -/
theorem s_RSgo (d n key : Nat) (T : Nat → Nat) (x : LX) (W C : List Nat) (a : Nat) (I : mm_I) (h : RS T n key x W C a I) (hx : WX T n x) (h1 : x.1 ≠ 256) (h2 : x.1 ≠ 259) : ∃ I', Sn (d + 2) q_M_go [.inr (12, 0)] I = some (none, (sh0, I')) ∧ RS T n key (nxT T n x) W C a I' ∧ g5 I I' := by
  obtain ⟨r1, r2, r3, r4, r5⟩ := h
  obtain ⟨I', a1, a2, a3⟩ := s_go d n T x I r1 r2.1 (r2.2.2.2.2.2.2 h1 h2) hx.2.1
  exact ⟨I', a1, ⟨TR_g r1 a3, a2, by rw [a3.2 17 (by omega)]; exact r3, RW_e r4 (a3.2 24 (by omega)) (a3.2 21 (by omega)) (a3.1 54 (by decide)) (a3.1 55 (by decide)), by rw [a3.2 22 (by omega)]; exact r5⟩, a3⟩
/-- a settle in a state -/
theorem s_RSset (d n key l : Nat) (T : Nat → Nat) (x : LX) (W C : List Nat) (a : Nat) (I : mm_I) (h : RS T n key x W C a I) (hl : l ≤ 6) (hW : okW W) (hc : C.length + W.length ≤ 96) : ∃ I', Sn (d + 2) q_M_settle [.inr (12, 0), .inl (nI l)] I = some (none, (sh0, I')) ∧ RS T n key x (stl l W C).1 (stl l W C).2 a I' ∧ s4 I I' := by
  obtain ⟨r1, r2, r3, r4, r5⟩ := h
  obtain ⟨I', a1, a2, a3⟩ := s_settle d l hl W C I r4 hW hc
  refine ⟨I', by rw [n_M_settle]; exact a1, ⟨TR_e r1 (a3.2 11 (by decide) (by decide)) (a3.1 52 (by decide)), LR_e r2 (fun j h1 h2 => a3.2 j (by omega) (by omega)), by rw [a3.2 17 (by decide) (by decide)]; exact r3, a2, by rw [a3.2 22 (by decide) (by decide)]; exact r5⟩, a3⟩
def pF (I I' : mm_I) : Prop := eqo [12, 54, 55, 201] I I' ∧ ∀ j, ¬ (12 ≤ j ∧ j ≤ 16) → j ≠ 21 → j ≠ 22 → j ≠ 24 → I' 12 0 j = I 12 0 j
theorem pF_rf (I : mm_I) : pF I I := ⟨eqo_rf _ _, fun _ _ _ _ _ => rfl⟩
theorem pF_tr {I J K : mm_I} (h : pF I J) (h2 : pF J K) : pF I K := ⟨eqo_tr h.1 h2.1, fun j a b c d => (h2.2 j a b c d).trans (h.2 j a b c d)⟩
theorem pF_g {I J : mm_I} (h : g5 I J) : pF I J := ⟨eqo_mono h.1 (by decide), fun j a _ _ _ => h.2 j a⟩
theorem pF_s {I J : mm_I} (h : s4 I J) : pF I J := ⟨eqo_mono h.1 (by decide), fun j _ b _ d => h.2 j b d⟩
theorem pF_k {I J : mm_I} {k j : Nat} {x : Int32} (h : pF I J) (hk : k = 54 ∨ k = 55 ∨ k = 201) : pF I (mm_up J k 0 j x) := ⟨eqo_up h.1 (by rcases hk with q | q | q <;> subst q <;> decide), fun i a b c d => by rw [up_F (by omega)]; exact h.2 i a b c d⟩
theorem pF_j {I J : mm_I} {j : Nat} {x : Int32} (h : pF I J) (hk : j = 21 ∨ j = 22 ∨ j = 24) : pF I (mm_up J 12 0 j x) := ⟨eqo_up h.1 (by decide), fun i a b c d => by rw [up_F (by omega)]; exact h.2 i a b c d⟩
theorem s_takesPart (d n key : Nat) (T : Nat → Nat) (x : LX) (W C : List Nat) (a : Nat) (I : mm_I) (h : RS T n key x W C a I) (hx : WX T n x) (hk : key < 4) (hW : okW W) (hc : C.length + W.length ≤ x.2.1) (ha : a ≤ 1000) : (∃ c I', opd T key x = some c ∧ Sn (d + 3) q_M_takesPart [.inr (12, 0)] I = some (some (.inl (nI 1)), (sh0, I')) ∧ RS T n key (nxT T n x) (stl 6 W (C ++ [c])).1 (stl 6 W (C ++ [c])).2 (a + 1) I' ∧ pF I I' ∧ I' 201 = I 201) ∨ (opd T key x = none ∧ Sn (d + 3) q_M_takesPart [.inr (12, 0)] I = some (some (.inl (nI 0)), (sh0, I))) := by
  obtain ⟨r1, r2, r3, r4, r5⟩ := h
  have hn := r1.1
  have hx1 := hx.1
  have hx3 := hx.2.2
  have hx2 := hx.2.1
  have l12 := r2.1
  have l13 := r2.2.1
  have l14 := r2.2.2.1
  have h21 : I 12 0 21 = nI C.length := r4.2.1
  -- the operand is put
  have put : ∀ c (v : Int32), x.1 = 257 ∨ x.1 = 258 → c < 20000 → opd T key x = some c → ∃ I', Rn (d + 2) q_M_takesPart 13 [some (.inr (12, 0)), some (.inl v)] [.inl (nI c), .inl (nI C.length), .inr (54, 0)] I = some (some (.inl (nI 1)), (sh0, I')) ∧ RS T n key (nxT T n x) (stl 6 W (C ++ [c])).1 (stl 6 W (C ++ [c])).2 (a + 1) I' ∧ pF I I' ∧ I' 201 = I 201 := by
    intro c v hw hc2 _
    have dcn : dcR c = nI c := if_pos hc2
    have R1 : RS T n key x W (C ++ [c]) (a + 1) (mm_up (mm_up (mm_up I 54 0 C.length (nI c)) 12 0 21 (nI (C.length + 1))) 12 0 22 (nI (a + 1))) := by
      refine ⟨TR_e r1 (by rw [up_F (by omega), up_F (by omega), up_F (by omega)]) (by funext i j; rw [up_F (by omega), up_F (by omega), up_F (by omega)]), LR_e r2 (fun j h1 h2 => by rw [up_F (by omega), up_F (by omega), up_F (by omega)]), by rw [up_F (by omega), up_F (by omega), up_F (by omega)]; exact r3, ⟨?_, ?_, fun p hp => ?_, fun p hp => ?_⟩, by rw [up_s]⟩
      · rw [up_F (by omega), up_F (by omega), up_F (by omega)]; exact r4.1
      · rw [up_F (by omega), up_s, List.length_append]; rfl
      · rw [List.length_append, List.length_singleton] at hp
        by_cases q : p = C.length
        · rw [up_F (by omega), up_F (by omega), q, up_s, at_r, dcn]
        · rw [up_F (by omega), up_F (by omega), up_F (by omega), at_l (by omega)]
          exact r4.2.2.1 p (by omega)
      · rw [up_F (by omega), up_F (by omega), up_F (by omega)]
        exact r4.2.2.2 p hp
    have hl : (C ++ [c]).length + W.length ≤ 96 := by rw [List.length_append, List.length_singleton]; omega
    obtain ⟨I1, b1, b2', b3⟩ := s_RSset d n key 6 T x W (C ++ [c]) (a + 1) _ R1 (by decide) hW hl
    obtain ⟨I2, c1, c2, c3⟩ := s_RSgo d n key T x _ _ (a + 1) I1 b2' hx (by omega) (by omega)
    refine ⟨I2, ?_, c2, pF_tr (pF_j (pF_j (pF_k (pF_rf I) (Or.inl rfl)) (by omega)) (by omega)) (pF_tr (pF_s b3) (pF_g c3)), ?_⟩
    · simp (disch := omega) only [e_M_takesPart_13, e_M_takesPart_14, e_M_takesPart_15, lit, nad, nml, bd_s, ct_s, ct_n, a11, a01, aB2, bitA, nlt, nle, neq, dlT, dlF, deT, deF, dqT, dqF, nN, inb, nsb, ndv, nrm, if_true, if_false, ite_true, ite_false, true_and, and_true, and_self, and_false, false_and, or_true, true_or, or_false, false_or, or_self, ↓reduceIte, eq_self, Nat.reduceAdd, Nat.reduceMul, Nat.reduceSub, Nat.reduceDiv, Nat.reduceMod, Nat.zero_add, Nat.mul_zero, not_true_eq_false, not_false_eq_true, up_T, up_F, wr_T, wr_F, ngE, ngE', ngL, ngL', ngQ, ngQ', h21, r5, b1, c1]
    · rw [c3.1 201 (by decide), b3.1 201 (by decide)]
      funext i j
      rw [up_F (by omega), up_F (by omega), up_F (by omega)]
  by_cases e7 : x.1 = 257
  · have tk : tkN x = 1 := by unfold tkN; rw [if_neg (by omega), if_pos e7]
    rw [tk] at l14
    have l15 := r2.2.2.2.2.1 e7
    have hb : T x.2.1 ≤ 255 := (r1.2.2 x.2.1 (by omega)).1
    have no := s_nameOf (d + 1) key (T x.2.1) I r3 hk hb
    have opE : opd T key x = if x.2.2 - x.2.1 = 1 then (nmK key (T x.2.1)).map (fun i => 10000 + i) else none := by
      unfold opd; rw [if_neg (by omega), if_pos e7]
    by_cases e1 : x.2.2 - x.2.1 = 1
    · rw [if_pos e1] at opE
      cases z : nmK key (T x.2.1) with
      | none =>
        rw [z] at no opE
        right
        refine ⟨opE, ?_⟩
        dsimp only at no
        simp (disch := omega) only [n_M_takesPart, e_M_takesPart_0, e_M_takesPart_1, e_M_takesPart_2, e_M_takesPart_3, e_M_takesPart_5, e_M_takesPart_6, e_M_takesPart_7, e_M_takesPart_8, lit, nad, nml, bd_s, ct_s, ct_n, a11, a01, aB2, bitA, nlt, nle, neq, dlT, dlF, deT, deF, dqT, dqF, nN, inb, nsb, ndv, nrm, if_true, if_false, ite_true, ite_false, true_and, and_true, and_self, and_false, false_and, or_true, true_or, or_false, false_or, or_self, ↓reduceIte, eq_self, Nat.reduceAdd, Nat.reduceMul, Nat.reduceSub, Nat.reduceDiv, Nat.reduceMod, Nat.zero_add, Nat.mul_zero, not_true_eq_false, not_false_eq_true, up_T, up_F, wr_T, wr_F, ngE, ngE', ngL, ngL', ngQ, ngQ', l12, l13, l14, l15, no, e1]
      | some i =>
        rw [z] at no opE
        left
        have hi := nmK_b z
        dsimp only at no
        have opE' : opd T key x = some (10000 + i) := opE
        obtain ⟨I', p1, p2, p3, p4⟩ := put (10000 + i) (nI 1) (Or.inl e7) (by omega) opE'
        refine ⟨10000 + i, I', opE', ?_, p2, p3, p4⟩
        rw [← p1]
        simp (disch := omega) only [n_M_takesPart, e_M_takesPart_0, e_M_takesPart_1, e_M_takesPart_2, e_M_takesPart_3, e_M_takesPart_4, e_M_takesPart_6, e_M_takesPart_7, e_M_takesPart_9, e_M_takesPart_11, e_M_takesPart_12, lit, nad, nml, bd_s, ct_s, ct_n, a11, a01, aB2, bitA, nlt, nle, neq, dlT, dlF, deT, deF, dqT, dqF, nN, inb, nsb, ndv, nrm, if_true, if_false, ite_true, ite_false, true_and, and_true, and_self, and_false, false_and, or_true, true_or, or_false, false_or, or_self, ↓reduceIte, eq_self, Nat.reduceAdd, Nat.reduceMul, Nat.reduceSub, Nat.reduceDiv, Nat.reduceMod, Nat.zero_add, Nat.mul_zero, not_true_eq_false, not_false_eq_true, up_T, up_F, wr_T, wr_F, ngE, ngE', ngL, ngL', ngQ, ngQ', l12, l13, l14, l15, no, e1, h21]
    · rw [if_neg e1] at opE
      right
      refine ⟨opE, ?_⟩
      simp (disch := omega) only [n_M_takesPart, e_M_takesPart_0, e_M_takesPart_1, e_M_takesPart_5, e_M_takesPart_6, e_M_takesPart_7, e_M_takesPart_8, lit, nad, nml, bd_s, ct_s, ct_n, a11, a01, aB2, bitA, nlt, nle, neq, dlT, dlF, deT, deF, dqT, dqF, nN, inb, nsb, ndv, nrm, if_true, if_false, ite_true, ite_false, true_and, and_true, and_self, and_false, false_and, or_true, true_or, or_false, false_or, or_self, ↓reduceIte, eq_self, Nat.reduceAdd, Nat.reduceMul, Nat.reduceSub, Nat.reduceDiv, Nat.reduceMod, Nat.zero_add, Nat.mul_zero, not_true_eq_false, not_false_eq_true, up_T, up_F, wr_T, wr_F, ngE, ngE', ngL, ngL', ngQ, ngQ', l12, l13, l14]
  · by_cases e8 : x.1 = 258
    · have opE : opd T key x = if x.2.2 - x.2.1 ≤ 4 then some (nmT T x.2.1 (x.2.2 - x.2.1)) else none := by
        unfold opd; rw [if_pos e8]
      have tk : tkN x = if x.2.2 - x.2.1 ≤ 4 then 2 else 4 := by unfold tkN; rw [if_neg (by omega), if_neg e7, if_pos e8]
      rw [tk] at l14
      by_cases e1 : x.2.2 - x.2.1 ≤ 4
      · rw [if_pos e1] at opE l14
        left
        have l15 := r2.2.2.2.2.2.1 e8 e1
        have ob := opd_b hx opE
        obtain ⟨I', p1, p2, p3, p4⟩ := put _ (nI 0) (Or.inr e8) (by omega) opE
        refine ⟨_, I', opE, ?_, p2, p3, p4⟩
        rw [← p1]
        simp (disch := omega) only [n_M_takesPart, e_M_takesPart_0, e_M_takesPart_5, e_M_takesPart_6, e_M_takesPart_9, e_M_takesPart_10, lit, nad, nml, bd_s, ct_s, ct_n, a11, a01, aB2, bitA, nlt, nle, neq, dlT, dlF, deT, deF, dqT, dqF, nN, inb, nsb, ndv, nrm, if_true, if_false, ite_true, ite_false, true_and, and_true, and_self, and_false, false_and, or_true, true_or, or_false, false_or, or_self, ↓reduceIte, eq_self, Nat.reduceAdd, Nat.reduceMul, Nat.reduceSub, Nat.reduceDiv, Nat.reduceMod, Nat.zero_add, Nat.mul_zero, not_true_eq_false, not_false_eq_true, up_T, up_F, wr_T, wr_F, ngE, ngE', ngL, ngL', ngQ, ngQ', l14, l15, h21]
      · rw [if_neg e1] at opE l14
        right
        refine ⟨opE, ?_⟩
        simp (disch := omega) only [n_M_takesPart, e_M_takesPart_0, e_M_takesPart_5, e_M_takesPart_6, e_M_takesPart_7, e_M_takesPart_8, lit, nad, nml, bd_s, ct_s, ct_n, a11, a01, aB2, bitA, nlt, nle, neq, dlT, dlF, deT, deF, dqT, dqF, nN, inb, nsb, ndv, nrm, if_true, if_false, ite_true, ite_false, true_and, and_true, and_self, and_false, false_and, or_true, true_or, or_false, false_or, or_self, ↓reduceIte, eq_self, Nat.reduceAdd, Nat.reduceMul, Nat.reduceSub, Nat.reduceDiv, Nat.reduceMod, Nat.zero_add, Nat.mul_zero, not_true_eq_false, not_false_eq_true, up_T, up_F, wr_T, wr_F, ngE, ngE', ngL, ngL', ngQ, ngQ', l14]
    · right
      have opE : opd T key x = none := by unfold opd; rw [if_neg e8, if_neg e7]
      have tk : tkN x = 0 ∨ tkN x = 3 ∨ tkN x = 4 := by
        unfold tkN
        by_cases q : x.1 = 256
        · rw [if_pos q]; omega
        · rw [if_neg q, if_neg e7, if_neg e8]
          split <;> omega
      refine ⟨opE, ?_⟩
      rcases tk with q | q | q <;> (rw [q] at l14; simp (disch := omega) only [n_M_takesPart, e_M_takesPart_0, e_M_takesPart_5, e_M_takesPart_6, e_M_takesPart_7, e_M_takesPart_8, lit, nad, nml, bd_s, ct_s, ct_n, a11, a01, aB2, bitA, nlt, nle, neq, dlT, dlF, deT, deF, dqT, dqF, nN, inb, nsb, ndv, nrm, if_true, if_false, ite_true, ite_false, true_and, and_true, and_self, and_false, false_and, or_true, true_or, or_false, false_or, or_self, ↓reduceIte, eq_self, Nat.reduceAdd, Nat.reduceMul, Nat.reduceSub, Nat.reduceDiv, Nat.reduceMod, Nat.zero_add, Nat.mul_zero, not_true_eq_false, not_false_eq_true, up_T, up_F, wr_T, wr_F, ngE, ngE', ngL, ngL', ngQ, ngQ', l14])
