/-! The class's levels. -/
theorem PQ_first {T : Nat → Nat} {n key L : Nat} {x : LX} {C W : List Nat} {a o k h : Nat} {t : Nat → Bool} {y : LX} {C1 : List Nat} {a' : Nat} (P : PQ T n key (L + 1) (L + 1) x C W a o k h t y C1 a') : PQ T n key L (L + 1) x C W a o k h t y C1 a' := by
  obtain ⟨g1, g2, g3, V, C', t', g4, g5, g6, g7, g8, g9, g10⟩ := P
  exact ⟨g1, g2, g3, V, C', t', fun c hc => ⟨(g4 c hc).1, by have := (g4 c hc).2; omega⟩, g5, g6, g7, fun q => g8 (by omega), g9, g10⟩
theorem PQ_out {T : Nat → Nat} {n key L : Nat} {x : LX} {C W : List Nat} {a o k h : Nat} {t : Nat → Bool} {y : LX} {C1 : List Nat} {a' : Nat} (P : PQ T n key L (L + 1) x C W a o k h t y C1 a') (hy : rkS y.1 ≠ L) : PQ T n key L L x C W a o k h t y C1 a' := by
  obtain ⟨g1, g2, g3, V, C', t', g4, g5, g6, g7, g8, g9, g10⟩ := P
  refine ⟨g1, g2, g3, V, C', t', g4, g5, g6, g7, g8, ?_, g10⟩
  rcases g9 with q | q
  · exact Or.inl (by omega)
  · exact Or.inr q
theorem PQ_go {T : Nat → Nat} {n key L : Nat} {x : LX} {C W : List Nat} {a o k h : Nat} {t : Nat → Bool} {y z : LX} {C1 C2 V C' : List Nat} {a1 a2 : Nat} {t' : Nat → Bool} (hL : rkS y.1 = L) (h0 : L ≠ 0) (hW : St L W) (hxy : x.2.1 < y.2.1) (hyy : y.2.1 < (nxT T n y).2.1) (g4 : ∀ c ∈ V, bnC c ∧ L ≤ rkC c) (g5 : C1 = C' ++ V) (g7 : ∀ j, j < o → t' j = t j) (g8 : 4 ≤ L → t' o = t o) (h3 : L = 3 → t' o = false) (g10 : ∀ r, RR T n key y false (V ++ W) C' a1 o k t' r → RR T n key x true W C a o k t r)
    (P2 : PQ T n key (L + 1) (L + 1) (nxT T n y) C1 ((20000 + y.1) :: W) a1 o k (h + 1) (uB t' o (decide (L = 3) || (decide (3 < L) && t' o))) z C2 a2) : PQ T n key L (L + 1) x C W a o k h t z (C2 ++ [20000 + y.1]) a2 := by
  obtain ⟨k1, k2, k3, V2, C2', t2, m1, m2, m3, m4, m5, m6, m7⟩ := P2
  have hs := rkS_0 (b := y.1) (by omega)
  have hr := rkC_s (b := y.1) (by omega)
  rw [List.length_cons] at m3
  refine ⟨hg_b k1 (by omega) (by omega), okL_a k2 (ok_s (by omega)), by omega, V2 ++ [20000 + y.1], C2', t2, fun c hc => ?_, by rw [m2, List.append_assoc], by rw [List.length_append, List.length_singleton]; omega, fun j hj => ?_, fun q => ?_, m6, fun r hr2 => g10 r (RR_sign hL h0 h3 g4 hW (by rw [← g5]; exact m7 r (by rw [List.append_assoc] at hr2; exact hr2)))⟩
  · rw [List.mem_append, List.mem_singleton] at hc
    rcases hc with q | q
    · exact ⟨(m1 c q).1, by have := (m1 c q).2; omega⟩
    · rw [q]
      exact ⟨⟨by omega, by omega⟩, by omega⟩
  · rw [m4 j hj, ← g7 j hj]
    unfold uB
    rw [if_neg (by omega)]
  · rw [m5 (by omega), ← g8 q]
    unfold uB
    rw [if_pos rfl, decide_eq_false (by omega), decide_eq_true (by omega), Bool.false_or, Bool.true_and]
theorem SP_of6 {D o k : Nat} (h : SP6 D o k) : SP D q_Reader_readPart 6 o k := by
  intro ho hk T n key x C W a t hh I hP hW _
  obtain ⟨b, I1, y, C1, a1, c1, c2, c3, c4, c5, c6, c7⟩ := h ho hk T n key x C W a t hh I hP
  refine ⟨b, I1, y, C1, a1, c1, c2, c3, c4, c5, fun z => ?_, c7⟩
  obtain ⟨g1, g2, g3, g4, t', g5, g6⟩ := c6 z
  refine ⟨g1, g2, g3, [], C1, t', fun c hc => absurd hc (List.not_mem_nil), (List.append_nil _).symm, g4, fun j hj => g5 j (by omega), fun _ => g5 o (Nat.le_refl _), Or.inl (by have := rkS_b y.1; omega), fun r hr => g6 r ?_⟩
  rw [hW C1, hP.2.2.2.2.2.2]
  exact hr
theorem rk5 {b : Nat} (h : rkS b = 5) : b = 42 ∨ b = 47 := by rcases rkS_0 (b := b) (by omega) with e | e | e | e | e | e | e | e | e <;> subst e <;> first | omega | exact absurd h (by decide)
theorem rk4 {b : Nat} (h : rkS b = 4) : b = 43 ∨ b = 45 := by rcases rkS_0 (b := b) (by omega) with e | e | e | e | e | e | e | e | e <;> subst e <;> first | omega | exact absurd h (by decide)
theorem rk3 {b : Nat} (h : rkS b = 3) : b = 60 ∨ b = 61 ∨ b = 62 := by rcases rkS_0 (b := b) (by omega) with e | e | e | e | e | e | e | e | e <;> subst e <;> first | omega | exact absurd h (by decide)
theorem rk2 {b : Nat} (h : rkS b = 2) : b = 38 := by rcases rkS_0 (b := b) (by omega) with e | e | e | e | e | e | e | e | e <;> subst e <;> first | omega | exact absurd h (by decide)
theorem rk1 {b : Nat} (h : rkS b = 1) : b = 124 := by rcases rkS_0 (b := b) (by omega) with e | e | e | e | e | e | e | e | e <;> subst e <;> first | omega | exact absurd h (by decide)
theorem rkN5 {b : Nat} (h : rkS b ≠ 5) : b ≠ 42 ∧ b ≠ 47 := ⟨fun q => h (by rw [q]; rfl), fun q => h (by rw [q]; rfl)⟩
theorem rkN4 {b : Nat} (h : rkS b ≠ 4) : b ≠ 43 ∧ b ≠ 45 := ⟨fun q => h (by rw [q]; rfl), fun q => h (by rw [q]; rfl)⟩
theorem rkN3 {b : Nat} (h : rkS b ≠ 3) : b ≠ 60 ∧ b ≠ 61 ∧ b ≠ 62 := ⟨fun q => h (by rw [q]; rfl), fun q => h (by rw [q]; rfl), fun q => h (by rw [q]; rfl)⟩
theorem rkN2 {b : Nat} (h : rkS b ≠ 2) : b ≠ 38 := fun q => h (by rw [q]; rfl)
theorem rkN1 {b : Nat} (h : rkS b ≠ 1) : b ≠ 124 := fun q => h (by rw [q]; rfl)
theorem WX_s {T : Nat → Nat} {n : Nat} {x : LX} (h : WX T n x) : x.2.1 ≤ n := by
  obtain ⟨-, h2, h3⟩ := h
  omega
theorem s_readTerm (d o k : Nat) (hS : SP (d + 4) q_Reader_readPart 6 o k) : SP (d + 5) q_Reader_readTerm 5 o k := by
  intro ho hk T n key x C W a t h I hP hW ht
  obtain ⟨b, I1, y, C1, a1, c1, c2, c3, c4, c5, c6, c7⟩ := hS ho hk T n key x C W a t h I hP (St_m hW (by omega)) (fun z => ht (by omega))
  have hkey := hP.2.1
  have hcn := hP.2.2.2.2.2.2
  cases b with
  | false =>
    refine ⟨false, I1, y, C1, a1, ?_, c2, c3, c4, c5, fun z => (by cases z), fun _ => c7 rfl⟩
    simp (disch := omega) only [n_Reader_readTerm, e_Reader_readTerm_0, e_Reader_readTerm_1, e_Reader_readTerm_2, lit, nad, nml, bd_s, ct_s, ct_n, a11, a01, aB2, bitA, nlt, nle, neq, dlT, dlF, deT, deF, dqT, dqF, nN, inb, nsb, ndv, nrm, if_true, if_false, ite_true, ite_false, true_and, and_true, and_self, and_false, false_and, or_true, true_or, or_false, false_or, or_self, ↓reduceIte, eq_self, Nat.reduceAdd, Nat.reduceMul, Nat.reduceSub, Nat.reduceDiv, Nat.reduceMod, Nat.zero_add, Nat.mul_zero, not_true_eq_false, not_false_eq_true, up_T, up_F, wr_T, wr_F, ngE, ngE', ngL, ngL', ngQ, ngQ', c1, b2F]
  | true =>
    have P0 := PQ_first (L := 5) (c6 rfl)
    have st : Sn (d + 5) q_Reader_readTerm [.inr (5, 0), .inl (nI o), .inl (nI k)] I = Rn (d + 4) q_Reader_readTerm 4 [some (.inr (5, 0)), some (.inl (nI o)), some (.inl (nI k)), some (.inl (nI 0)), none] [] I1 := by
      simp (disch := omega) only [n_Reader_readTerm, e_Reader_readTerm_0, e_Reader_readTerm_1, e_Reader_readTerm_3, lit, nad, nml, bd_s, ct_s, ct_n, a11, a01, aB2, bitA, nlt, nle, neq, dlT, dlF, deT, deF, dqT, dqF, nN, inb, nsb, ndv, nrm, if_true, if_false, ite_true, ite_false, true_and, and_true, and_self, and_false, false_and, or_true, true_or, or_false, false_or, or_self, ↓reduceIte, eq_self, Nat.reduceAdd, Nat.reduceMul, Nat.reduceSub, Nat.reduceDiv, Nat.reduceMod, Nat.zero_add, Nat.mul_zero, not_true_eq_false, not_false_eq_true, up_T, up_F, wr_T, wr_F, ngE, ngE', ngL, ngL', ngQ, ngQ', c1, b2T]
    rw [st]
    refine lpX (n := 96) (σ := Option mm_V × LX × List Nat × Nat × mm_I) (fun i s => Rn (d + 4) q_Reader_readTerm 4 [some (.inr (5, 0)), some (.inl (nI o)), some (.inl (nI k)), some (.inl (nI i)), s.1] [] s.2.2.2.2) (fun i s => i < s.2.1.2.1 ∧ eqo [5, 30] I s.2.2.2.2 ∧ RD T n (nI key) s.2.1 s.2.2.1 s.2.2.2.1 s.2.2.2.2 ∧ WX T n s.2.1 ∧ PQ T n key 5 6 x C W a o k h t s.2.1 s.2.2.1 s.2.2.2.1) (fun q => ∃ b I' y C1 a', q = some (some (.inl (nI (b2 b))), (sh0, I')) ∧ eqo [5, 30] I I' ∧ RD T n (nI key) y C1 a' I' ∧ WX T n y ∧ x.2.1 ≤ y.2.1 ∧ (b = true → PQ T n key 5 5 x C W a o k h t y C1 a') ∧ (b = false → RR T n key x true W C a o k t (false, y.2.1, [], 0))) ?_ ?_ 0 (none, y, C1, a1, I1) (Nat.zero_le _) ⟨by dsimp only; have := P0.2.2.1; omega, c2, c3, c4, P0⟩
    · rintro i ⟨v, y, C1, a1, K⟩ hi ⟨k0, k1, k2, k3, P⟩
      dsimp only at k0 k1 k2 k3 P ⊢
      have l6 : K 5 0 6 = nI y.1 := k2.2.1.1
      have hy1 := k3.1
      by_cases e : rkS y.1 = 5
      · have hy := rk5 e
        have hrc := rkC_s (b := y.1) (by omega)
        obtain ⟨K1, p1, p2, p3⟩ := s_RDstep (d + 2) n T (nI key) y C1 a1 K k2 ⟨hy1, k3.2.1⟩
        have nw := nx_w (x := y) (fun p hp => (k2.1.2.2 p hp).1) k3.2.1
        have k32 := k3.2.2
        have hyy : y.2.1 < (nxT T n y).2.1 := by omega
        obtain ⟨g1, g2, g3, V, C', t', g4, g5, g6, g7, g8, g9, g10⟩ := P
        obtain ⟨b, K2, z, C2, a2, q1, q2, q3, q4, q5, q6, q7⟩ := hS ho hk T n key (nxT T n y) C1 ((20000 + y.1) :: W) a1 (uB t' o (decide (5 = 3) || (decide (3 < 5) && t' o))) (h + 1) K1 ⟨p2, hkey, nw.1, g1, g2, by rw [List.length_cons]; omega, by rw [cnN, hcn, if_neg (by omega)]; rfl⟩ (St_c (by omega)) (fun z => by unfold uB; rw [if_pos rfl]; first | rfl | omega)
        have pr7 : Rn (d + 4) q_Reader_readTerm 4 [some (.inr (5, 0)), some (.inl (nI o)), some (.inl (nI k)), some (.inl (nI i)), v] [] K = Rn (d + 4) q_Reader_readTerm 9 [some (.inr (5, 0)), some (.inl (nI o)), some (.inl (nI k)), some (.inl (nI i)), some (.inl (nI (y.1)))] [.inl (nI (b2 b))] K2 := by
          rcases hy with w | w <;> simp (disch := omega) only [e_Reader_readTerm_5, e_Reader_readTerm_6, e_Reader_readTerm_7, e_Reader_readTerm_8, e_Reader_readTerm_4 (x3 := nI i), lit, nad, nml, bd_s, ct_s, ct_n, a11, a01, aB2, bitA, nlt, nle, neq, dlT, dlF, deT, deF, dqT, dqF, nN, inb, nsb, ndv, nrm, if_true, if_false, ite_true, ite_false, true_and, and_true, and_self, and_false, false_and, or_true, true_or, or_false, false_or, or_self, ↓reduceIte, eq_self, Nat.reduceAdd, Nat.reduceMul, Nat.reduceSub, Nat.reduceDiv, Nat.reduceMod, Nat.zero_add, Nat.mul_zero, not_true_eq_false, not_false_eq_true, up_T, up_F, wr_T, wr_F, ngE, ngE', ngL, ngL', ngQ, ngQ', l6, p1, q1]
        cases b with
        | false =>
          left
          refine ⟨false, K2, z, C2, a2, ?_, eqo_tr k1 (eqo_tr p3 q2), q3, q4, by omega, fun w => (by cases w), fun _ => g10 _ (RR_sign e (by omega) (by omega) g4 hW (by rw [← g5]; exact q7 rfl))⟩
          rw [pr7]
          simp (disch := omega) only [e_Reader_readTerm_9, e_Reader_readTerm_10, lit, nad, nml, bd_s, ct_s, ct_n, a11, a01, aB2, bitA, nlt, nle, neq, dlT, dlF, deT, deF, dqT, dqF, nN, inb, nsb, ndv, nrm, if_true, if_false, ite_true, ite_false, true_and, and_true, and_self, and_false, false_and, or_true, true_or, or_false, false_or, or_self, ↓reduceIte, eq_self, Nat.reduceAdd, Nat.reduceMul, Nat.reduceSub, Nat.reduceDiv, Nat.reduceMod, Nat.zero_add, Nat.mul_zero, not_true_eq_false, not_false_eq_true, up_T, up_F, wr_T, wr_F, ngE, ngE', ngL, ngL', ngQ, ngQ', b2F]
        | true =>
          right
          have P2 := q6 rfl
          have z1 := P2.2.2.1
          have z2 := P2
          obtain ⟨-, -, -, -, -, -, -, -, z3, -⟩ := z2
          rw [List.length_cons] at z3
          have zn := WX_s q4
          have hn := k2.1.1
          obtain ⟨K3, u1, u2, u3⟩ := s_put (d + 3) n (20000 + y.1) T (nI key) z C2 a2 K2 q3 (by omega)
          refine ⟨(some (.inl (nI y.1)), z, C2 ++ [20000 + y.1], a2, K3), ⟨by dsimp only; omega, eqo_tr k1 (eqo_tr p3 (eqo_tr q2 u3)), u2, q4, PQ_go e (by omega) hW g3 hyy g4 g5 g7 g8 (by omega) g10 P2⟩, ?_⟩
          dsimp only
          rw [pr7]
          simp (disch := omega) only [e_Reader_readTerm_9, e_Reader_readTerm_11, e_Reader_readTerm_12, lit, nad, nml, bd_s, ct_s, ct_n, a11, a01, aB2, bitA, nlt, nle, neq, dlT, dlF, deT, deF, dqT, dqF, nN, inb, nsb, ndv, nrm, if_true, if_false, ite_true, ite_false, true_and, and_true, and_self, and_false, false_and, or_true, true_or, or_false, false_or, or_self, ↓reduceIte, eq_self, Nat.reduceAdd, Nat.reduceMul, Nat.reduceSub, Nat.reduceDiv, Nat.reduceMod, Nat.zero_add, Nat.mul_zero, not_true_eq_false, not_false_eq_true, up_T, up_F, wr_T, wr_F, ngE, ngE', ngL, ngL', ngQ, ngQ', u1, b2T]
      · left
        have hy := rkN5 e
        refine ⟨true, K, y, C1, a1, ?_, k1, k2, k3, by have := P.2.2.1; omega, fun _ => PQ_out P e, fun w => by cases w⟩
        simp (disch := omega) only [e_Reader_readTerm_5, e_Reader_readTerm_6, e_Reader_readTerm_13, e_Reader_readTerm_4 (x3 := nI i), lit, nad, nml, bd_s, ct_s, ct_n, a11, a01, aB2, bitA, nlt, nle, neq, dlT, dlF, deT, deF, dqT, dqF, nN, inb, nsb, ndv, nrm, if_true, if_false, ite_true, ite_false, true_and, and_true, and_self, and_false, false_and, or_true, true_or, or_false, false_or, or_self, ↓reduceIte, eq_self, Nat.reduceAdd, Nat.reduceMul, Nat.reduceSub, Nat.reduceDiv, Nat.reduceMod, Nat.zero_add, Nat.mul_zero, not_true_eq_false, not_false_eq_true, up_T, up_F, wr_T, wr_F, ngE, ngE', ngL, ngL', ngQ, ngQ', l6, b2T]
    · rintro ⟨v, y, C1, a1, K⟩ ⟨k0, k1, k2, k3, P⟩
      dsimp only at k0 k2 k3
      have := WX_s k3
      have := k2.1.1
      omega
theorem s_readTerms (d o k : Nat) (hS : SP (d + 4) q_Reader_readTerm 5 o k) : SP (d + 5) q_Reader_readTerms 4 o k := by
  intro ho hk T n key x C W a t h I hP hW ht
  obtain ⟨b, I1, y, C1, a1, c1, c2, c3, c4, c5, c6, c7⟩ := hS ho hk T n key x C W a t h I hP (St_m hW (by omega)) (fun z => ht (by omega))
  have hkey := hP.2.1
  have hcn := hP.2.2.2.2.2.2
  cases b with
  | false =>
    refine ⟨false, I1, y, C1, a1, ?_, c2, c3, c4, c5, fun z => (by cases z), fun _ => c7 rfl⟩
    simp (disch := omega) only [n_Reader_readTerms, e_Reader_readTerms_0, e_Reader_readTerms_1, e_Reader_readTerms_2, lit, nad, nml, bd_s, ct_s, ct_n, a11, a01, aB2, bitA, nlt, nle, neq, dlT, dlF, deT, deF, dqT, dqF, nN, inb, nsb, ndv, nrm, if_true, if_false, ite_true, ite_false, true_and, and_true, and_self, and_false, false_and, or_true, true_or, or_false, false_or, or_self, ↓reduceIte, eq_self, Nat.reduceAdd, Nat.reduceMul, Nat.reduceSub, Nat.reduceDiv, Nat.reduceMod, Nat.zero_add, Nat.mul_zero, not_true_eq_false, not_false_eq_true, up_T, up_F, wr_T, wr_F, ngE, ngE', ngL, ngL', ngQ, ngQ', c1, b2F]
  | true =>
    have P0 := PQ_first (L := 4) (c6 rfl)
    have st : Sn (d + 5) q_Reader_readTerms [.inr (5, 0), .inl (nI o), .inl (nI k)] I = Rn (d + 4) q_Reader_readTerms 4 [some (.inr (5, 0)), some (.inl (nI o)), some (.inl (nI k)), some (.inl (nI 0)), none] [] I1 := by
      simp (disch := omega) only [n_Reader_readTerms, e_Reader_readTerms_0, e_Reader_readTerms_1, e_Reader_readTerms_3, lit, nad, nml, bd_s, ct_s, ct_n, a11, a01, aB2, bitA, nlt, nle, neq, dlT, dlF, deT, deF, dqT, dqF, nN, inb, nsb, ndv, nrm, if_true, if_false, ite_true, ite_false, true_and, and_true, and_self, and_false, false_and, or_true, true_or, or_false, false_or, or_self, ↓reduceIte, eq_self, Nat.reduceAdd, Nat.reduceMul, Nat.reduceSub, Nat.reduceDiv, Nat.reduceMod, Nat.zero_add, Nat.mul_zero, not_true_eq_false, not_false_eq_true, up_T, up_F, wr_T, wr_F, ngE, ngE', ngL, ngL', ngQ, ngQ', c1, b2T]
    rw [st]
    refine lpX (n := 96) (σ := Option mm_V × LX × List Nat × Nat × mm_I) (fun i s => Rn (d + 4) q_Reader_readTerms 4 [some (.inr (5, 0)), some (.inl (nI o)), some (.inl (nI k)), some (.inl (nI i)), s.1] [] s.2.2.2.2) (fun i s => i < s.2.1.2.1 ∧ eqo [5, 30] I s.2.2.2.2 ∧ RD T n (nI key) s.2.1 s.2.2.1 s.2.2.2.1 s.2.2.2.2 ∧ WX T n s.2.1 ∧ PQ T n key 4 5 x C W a o k h t s.2.1 s.2.2.1 s.2.2.2.1) (fun q => ∃ b I' y C1 a', q = some (some (.inl (nI (b2 b))), (sh0, I')) ∧ eqo [5, 30] I I' ∧ RD T n (nI key) y C1 a' I' ∧ WX T n y ∧ x.2.1 ≤ y.2.1 ∧ (b = true → PQ T n key 4 4 x C W a o k h t y C1 a') ∧ (b = false → RR T n key x true W C a o k t (false, y.2.1, [], 0))) ?_ ?_ 0 (none, y, C1, a1, I1) (Nat.zero_le _) ⟨by dsimp only; have := P0.2.2.1; omega, c2, c3, c4, P0⟩
    · rintro i ⟨v, y, C1, a1, K⟩ hi ⟨k0, k1, k2, k3, P⟩
      dsimp only at k0 k1 k2 k3 P ⊢
      have l6 : K 5 0 6 = nI y.1 := k2.2.1.1
      have hy1 := k3.1
      by_cases e : rkS y.1 = 4
      · have hy := rk4 e
        have hrc := rkC_s (b := y.1) (by omega)
        obtain ⟨K1, p1, p2, p3⟩ := s_RDstep (d + 2) n T (nI key) y C1 a1 K k2 ⟨hy1, k3.2.1⟩
        have nw := nx_w (x := y) (fun p hp => (k2.1.2.2 p hp).1) k3.2.1
        have k32 := k3.2.2
        have hyy : y.2.1 < (nxT T n y).2.1 := by omega
        obtain ⟨g1, g2, g3, V, C', t', g4, g5, g6, g7, g8, g9, g10⟩ := P
        obtain ⟨b, K2, z, C2, a2, q1, q2, q3, q4, q5, q6, q7⟩ := hS ho hk T n key (nxT T n y) C1 ((20000 + y.1) :: W) a1 (uB t' o (decide (4 = 3) || (decide (3 < 4) && t' o))) (h + 1) K1 ⟨p2, hkey, nw.1, g1, g2, by rw [List.length_cons]; omega, by rw [cnN, hcn, if_neg (by omega)]; rfl⟩ (St_c (by omega)) (fun z => by unfold uB; rw [if_pos rfl]; first | rfl | omega)
        have pr7 : Rn (d + 4) q_Reader_readTerms 4 [some (.inr (5, 0)), some (.inl (nI o)), some (.inl (nI k)), some (.inl (nI i)), v] [] K = Rn (d + 4) q_Reader_readTerms 9 [some (.inr (5, 0)), some (.inl (nI o)), some (.inl (nI k)), some (.inl (nI i)), some (.inl (nI (y.1)))] [.inl (nI (b2 b))] K2 := by
          rcases hy with w | w <;> simp (disch := omega) only [e_Reader_readTerms_5, e_Reader_readTerms_6, e_Reader_readTerms_7, e_Reader_readTerms_8, e_Reader_readTerms_4 (x3 := nI i), lit, nad, nml, bd_s, ct_s, ct_n, a11, a01, aB2, bitA, nlt, nle, neq, dlT, dlF, deT, deF, dqT, dqF, nN, inb, nsb, ndv, nrm, if_true, if_false, ite_true, ite_false, true_and, and_true, and_self, and_false, false_and, or_true, true_or, or_false, false_or, or_self, ↓reduceIte, eq_self, Nat.reduceAdd, Nat.reduceMul, Nat.reduceSub, Nat.reduceDiv, Nat.reduceMod, Nat.zero_add, Nat.mul_zero, not_true_eq_false, not_false_eq_true, up_T, up_F, wr_T, wr_F, ngE, ngE', ngL, ngL', ngQ, ngQ', l6, p1, q1]
        cases b with
        | false =>
          left
          refine ⟨false, K2, z, C2, a2, ?_, eqo_tr k1 (eqo_tr p3 q2), q3, q4, by omega, fun w => (by cases w), fun _ => g10 _ (RR_sign e (by omega) (by omega) g4 hW (by rw [← g5]; exact q7 rfl))⟩
          rw [pr7]
          simp (disch := omega) only [e_Reader_readTerms_9, e_Reader_readTerms_10, lit, nad, nml, bd_s, ct_s, ct_n, a11, a01, aB2, bitA, nlt, nle, neq, dlT, dlF, deT, deF, dqT, dqF, nN, inb, nsb, ndv, nrm, if_true, if_false, ite_true, ite_false, true_and, and_true, and_self, and_false, false_and, or_true, true_or, or_false, false_or, or_self, ↓reduceIte, eq_self, Nat.reduceAdd, Nat.reduceMul, Nat.reduceSub, Nat.reduceDiv, Nat.reduceMod, Nat.zero_add, Nat.mul_zero, not_true_eq_false, not_false_eq_true, up_T, up_F, wr_T, wr_F, ngE, ngE', ngL, ngL', ngQ, ngQ', b2F]
        | true =>
          right
          have P2 := q6 rfl
          have z1 := P2.2.2.1
          have z2 := P2
          obtain ⟨-, -, -, -, -, -, -, -, z3, -⟩ := z2
          rw [List.length_cons] at z3
          have zn := WX_s q4
          have hn := k2.1.1
          obtain ⟨K3, u1, u2, u3⟩ := s_put (d + 3) n (20000 + y.1) T (nI key) z C2 a2 K2 q3 (by omega)
          refine ⟨(some (.inl (nI y.1)), z, C2 ++ [20000 + y.1], a2, K3), ⟨by dsimp only; omega, eqo_tr k1 (eqo_tr p3 (eqo_tr q2 u3)), u2, q4, PQ_go e (by omega) hW g3 hyy g4 g5 g7 g8 (by omega) g10 P2⟩, ?_⟩
          dsimp only
          rw [pr7]
          simp (disch := omega) only [e_Reader_readTerms_9, e_Reader_readTerms_11, e_Reader_readTerms_12, lit, nad, nml, bd_s, ct_s, ct_n, a11, a01, aB2, bitA, nlt, nle, neq, dlT, dlF, deT, deF, dqT, dqF, nN, inb, nsb, ndv, nrm, if_true, if_false, ite_true, ite_false, true_and, and_true, and_self, and_false, false_and, or_true, true_or, or_false, false_or, or_self, ↓reduceIte, eq_self, Nat.reduceAdd, Nat.reduceMul, Nat.reduceSub, Nat.reduceDiv, Nat.reduceMod, Nat.zero_add, Nat.mul_zero, not_true_eq_false, not_false_eq_true, up_T, up_F, wr_T, wr_F, ngE, ngE', ngL, ngL', ngQ, ngQ', u1, b2T]
      · left
        have hy := rkN4 e
        refine ⟨true, K, y, C1, a1, ?_, k1, k2, k3, by have := P.2.2.1; omega, fun _ => PQ_out P e, fun w => by cases w⟩
        simp (disch := omega) only [e_Reader_readTerms_5, e_Reader_readTerms_6, e_Reader_readTerms_13, e_Reader_readTerms_4 (x3 := nI i), lit, nad, nml, bd_s, ct_s, ct_n, a11, a01, aB2, bitA, nlt, nle, neq, dlT, dlF, deT, deF, dqT, dqF, nN, inb, nsb, ndv, nrm, if_true, if_false, ite_true, ite_false, true_and, and_true, and_self, and_false, false_and, or_true, true_or, or_false, false_or, or_self, ↓reduceIte, eq_self, Nat.reduceAdd, Nat.reduceMul, Nat.reduceSub, Nat.reduceDiv, Nat.reduceMod, Nat.zero_add, Nat.mul_zero, not_true_eq_false, not_false_eq_true, up_T, up_F, wr_T, wr_F, ngE, ngE', ngL, ngL', ngQ, ngQ', l6, b2T]
    · rintro ⟨v, y, C1, a1, K⟩ ⟨k0, k1, k2, k3, P⟩
      dsimp only at k0 k2 k3
      have := WX_s k3
      have := k2.1.1
      omega
theorem s_readTest (d o k : Nat) (hS : SP (d + 4) q_Reader_readTerms 4 o k) : SP (d + 5) q_Reader_readTest 3 o k := by
  intro ho hk T n key x C W a t h I hP hW ht
  obtain ⟨b, I1, y, C1, a1, c1, c2, c3, c4, c5, c6, c7⟩ := hS ho hk T n key x C W a t h I hP (St_m hW (by omega)) (fun z => absurd z (by decide))
  have hkey := hP.2.1
  have hcn := hP.2.2.2.2.2.2
  cases b with
  | false =>
    refine ⟨false, I1, y, C1, a1, ?_, c2, c3, c4, c5, fun z => (by cases z), fun _ => c7 rfl⟩
    simp (disch := omega) only [n_Reader_readTest, e_Reader_readTest_0, e_Reader_readTest_1, e_Reader_readTest_2, lit, nad, nml, bd_s, ct_s, ct_n, a11, a01, aB2, bitA, nlt, nle, neq, dlT, dlF, deT, deF, dqT, dqF, nN, inb, nsb, ndv, nrm, if_true, if_false, ite_true, ite_false, true_and, and_true, and_self, and_false, false_and, or_true, true_or, or_false, false_or, or_self, ↓reduceIte, eq_self, Nat.reduceAdd, Nat.reduceMul, Nat.reduceSub, Nat.reduceDiv, Nat.reduceMod, Nat.zero_add, Nat.mul_zero, not_true_eq_false, not_false_eq_true, up_T, up_F, wr_T, wr_F, ngE, ngE', ngL, ngL', ngQ, ngQ', c1, b2F]
  | true =>
    have P := c6 rfl
    have l6 : I1 5 0 6 = nI y.1 := c3.2.1.1
    have hy1 := c4.1
    by_cases e : rkS y.1 = 3
    rotate_left
    · have hy := rkN3 e
      refine ⟨true, I1, y, C1, a1, ?_, c2, c3, c4, c5, fun _ => PQ_out (PQ_first (L := 3) P) e, fun w => by cases w⟩
      simp (disch := omega) only [n_Reader_readTest, e_Reader_readTest_0, e_Reader_readTest_1, e_Reader_readTest_3, e_Reader_readTest_4, e_Reader_readTest_5, e_Reader_readTest_6, lit, nad, nml, bd_s, ct_s, ct_n, a11, a01, aB2, bitA, nlt, nle, neq, dlT, dlF, deT, deF, dqT, dqF, nN, inb, nsb, ndv, nrm, if_true, if_false, ite_true, ite_false, true_and, and_true, and_self, and_false, false_and, or_true, true_or, or_false, false_or, or_self, ↓reduceIte, eq_self, Nat.reduceAdd, Nat.reduceMul, Nat.reduceSub, Nat.reduceDiv, Nat.reduceMod, Nat.zero_add, Nat.mul_zero, not_true_eq_false, not_false_eq_true, up_T, up_F, wr_T, wr_F, ngE, ngE', ngL, ngL', ngQ, ngQ', c1, l6, b2T]
    · have hy := rk3 e
      have hrc := rkC_s (b := y.1) (by omega)
      obtain ⟨K1, p1, p2, p3⟩ := s_RDstep (d + 2) n T (nI key) y C1 a1 I1 c3 ⟨hy1, c4.2.1⟩
      have nw := nx_w (x := y) (fun p hp => (c3.1.2.2 p hp).1) c4.2.1
      have k32 := c4.2.2
      have hyy : y.2.1 < (nxT T n y).2.1 := by omega
      obtain ⟨g1, g2, g3, V, C', t', g4, g5, g6, g7, g8, g9, g10⟩ := P
      have ht' : t' o = false := by rw [g8 (by decide)]; exact ht (by decide)
      have g4' : ∀ c ∈ V, bnC c ∧ 3 ≤ rkC c := fun c hc => ⟨(g4 c hc).1, by have := (g4 c hc).2; omega⟩
      obtain ⟨b, K2, z, C2, a2, q1, q2, q3, q4, q5, q6, q7⟩ := hS ho hk T n key (nxT T n y) C1 ((20000 + y.1) :: W) a1 (uB t' o (decide (3 = 3) || (decide (3 < 3) && t' o))) (h + 1) K1 ⟨p2, hkey, nw.1, g1, g2, by rw [List.length_cons]; omega, by rw [cnN, hcn, if_neg (by omega)]; rfl⟩ (St_c (by omega)) (fun z => absurd z (by decide))
      have pr7 : Sn (d + 5) q_Reader_readTest [.inr (5, 0), .inl (nI o), .inl (nI k)] I = Rn (d + 4) q_Reader_readTest 9 [some (.inr (5, 0)), some (.inl (nI o)), some (.inl (nI k)), some (.inl (nI (y.1)))] [.inl (nI (b2 b))] K2 := by
        rcases hy with w | w | w <;> simp (disch := omega) only [n_Reader_readTest, e_Reader_readTest_0, e_Reader_readTest_1, e_Reader_readTest_3, e_Reader_readTest_4, e_Reader_readTest_5, e_Reader_readTest_7, e_Reader_readTest_8, lit, nad, nml, bd_s, ct_s, ct_n, a11, a01, aB2, bitA, nlt, nle, neq, dlT, dlF, deT, deF, dqT, dqF, nN, inb, nsb, ndv, nrm, if_true, if_false, ite_true, ite_false, true_and, and_true, and_self, and_false, false_and, or_true, true_or, or_false, false_or, or_self, ↓reduceIte, eq_self, Nat.reduceAdd, Nat.reduceMul, Nat.reduceSub, Nat.reduceDiv, Nat.reduceMod, Nat.zero_add, Nat.mul_zero, not_true_eq_false, not_false_eq_true, up_T, up_F, wr_T, wr_F, ngE, ngE', ngL, ngL', ngQ, ngQ', c1, l6, p1, q1, b2T]
      rw [pr7]
      cases b with
      | false =>
        refine ⟨false, K2, z, C2, a2, ?_, eqo_tr c2 (eqo_tr p3 q2), q3, q4, by omega, fun w => (by cases w), fun _ => g10 _ (RR_sign e (by omega) (fun _ => ht') g4' hW (by rw [← g5]; exact q7 rfl))⟩
        simp (disch := omega) only [e_Reader_readTest_9, e_Reader_readTest_10, lit, nad, nml, bd_s, ct_s, ct_n, a11, a01, aB2, bitA, nlt, nle, neq, dlT, dlF, deT, deF, dqT, dqF, nN, inb, nsb, ndv, nrm, if_true, if_false, ite_true, ite_false, true_and, and_true, and_self, and_false, false_and, or_true, true_or, or_false, false_or, or_self, ↓reduceIte, eq_self, Nat.reduceAdd, Nat.reduceMul, Nat.reduceSub, Nat.reduceDiv, Nat.reduceMod, Nat.zero_add, Nat.mul_zero, not_true_eq_false, not_false_eq_true, up_T, up_F, wr_T, wr_F, ngE, ngE', ngL, ngL', ngQ, ngQ', b2F]
      | true =>
        have P2 := q6 rfl
        have z1 := P2.2.2.1
        have z2 := P2
        obtain ⟨-, -, -, -, -, t2, -, -, z3, -, z5, z6, -⟩ := z2
        rw [List.length_cons] at z3
        have zn := WX_s q4
        have hn := c3.1.1
        obtain ⟨K3, u1, u2, u3⟩ := s_put (d + 3) n (20000 + y.1) T (nI key) z C2 a2 K2 q3 (by omega)
        have PG := PQ_go (L := 3) e (by omega) hW g3 hyy g4' g5 g7 (fun q => absurd q (by decide)) (fun _ => ht') g10 P2
        refine ⟨true, K3, z, C2 ++ [20000 + y.1], a2, ?_, eqo_tr c2 (eqo_tr p3 (eqo_tr q2 u3)), u2, q4, by omega, fun _ => ?_, fun w => by cases w⟩
        · simp (disch := omega) only [e_Reader_readTest_9, e_Reader_readTest_11, e_Reader_readTest_12, lit, nad, nml, bd_s, ct_s, ct_n, a11, a01, aB2, bitA, nlt, nle, neq, dlT, dlF, deT, deF, dqT, dqF, nN, inb, nsb, ndv, nrm, if_true, if_false, ite_true, ite_false, true_and, and_true, and_self, and_false, false_and, or_true, true_or, or_false, false_or, or_self, ↓reduceIte, eq_self, Nat.reduceAdd, Nat.reduceMul, Nat.reduceSub, Nat.reduceDiv, Nat.reduceMod, Nat.zero_add, Nat.mul_zero, not_true_eq_false, not_false_eq_true, up_T, up_F, wr_T, wr_F, ngE, ngE', ngL, ngL', ngQ, ngQ', u1, b2T]
        · have P2' := P2
          obtain ⟨k1, k2, k3, V2, C2', t2, m1, m2, m3, m4, m5, m6, m7⟩ := P2'
          have tt : t2 o = true := by
            rw [m5 (by decide)]
            unfold uB
            rw [if_pos rfl]
            rfl
          have hr := rkC_s (b := y.1) (by omega)
          rw [List.length_cons] at m3
          refine ⟨hg_b k1 (by omega) (by omega), okL_a k2 (ok_s (by omega)), by omega, V2 ++ [20000 + y.1], C2', t2, fun c hc => ?_, by rw [m2, List.append_assoc], by rw [List.length_append, List.length_singleton]; omega, fun j hj => ?_, fun q => absurd q (by decide), ?_, fun r hr2 => g10 r (RR_sign e (by omega) (fun _ => ht') g4' hW (by rw [← g5]; exact m7 r (by rw [List.append_assoc] at hr2; exact hr2)))⟩
          · rw [List.mem_append, List.mem_singleton] at hc
            rcases hc with q | q
            · exact ⟨(m1 c q).1, by have := (m1 c q).2; omega⟩
            · rw [q]
              exact ⟨⟨by omega, by omega⟩, by omega⟩
          · rw [m4 j hj, ← g7 j hj]
            unfold uB
            rw [if_neg (by omega)]
          · rcases m6 with q | q
            · by_cases q3 : rkS z.1 = 3
              · exact Or.inr ⟨q3, tt⟩
              · exact Or.inl (by omega)
            · exact Or.inr q
theorem s_readAnd (d o k : Nat) (hS : SP (d + 4) q_Reader_readTest 3 o k) : SP (d + 5) q_Reader_readAnd 2 o k := by
  intro ho hk T n key x C W a t h I hP hW ht
  obtain ⟨b, I1, y, C1, a1, c1, c2, c3, c4, c5, c6, c7⟩ := hS ho hk T n key x C W a t h I hP (St_m hW (by omega)) (fun z => ht (by omega))
  have hkey := hP.2.1
  have hcn := hP.2.2.2.2.2.2
  cases b with
  | false =>
    refine ⟨false, I1, y, C1, a1, ?_, c2, c3, c4, c5, fun z => (by cases z), fun _ => c7 rfl⟩
    simp (disch := omega) only [n_Reader_readAnd, e_Reader_readAnd_0, e_Reader_readAnd_1, e_Reader_readAnd_2, lit, nad, nml, bd_s, ct_s, ct_n, a11, a01, aB2, bitA, nlt, nle, neq, dlT, dlF, deT, deF, dqT, dqF, nN, inb, nsb, ndv, nrm, if_true, if_false, ite_true, ite_false, true_and, and_true, and_self, and_false, false_and, or_true, true_or, or_false, false_or, or_self, ↓reduceIte, eq_self, Nat.reduceAdd, Nat.reduceMul, Nat.reduceSub, Nat.reduceDiv, Nat.reduceMod, Nat.zero_add, Nat.mul_zero, not_true_eq_false, not_false_eq_true, up_T, up_F, wr_T, wr_F, ngE, ngE', ngL, ngL', ngQ, ngQ', c1, b2F]
  | true =>
    have P0 := PQ_first (L := 2) (c6 rfl)
    have st : Sn (d + 5) q_Reader_readAnd [.inr (5, 0), .inl (nI o), .inl (nI k)] I = Rn (d + 4) q_Reader_readAnd 4 [some (.inr (5, 0)), some (.inl (nI o)), some (.inl (nI k)), some (.inl (nI 0))] [] I1 := by
      simp (disch := omega) only [n_Reader_readAnd, e_Reader_readAnd_0, e_Reader_readAnd_1, e_Reader_readAnd_3, lit, nad, nml, bd_s, ct_s, ct_n, a11, a01, aB2, bitA, nlt, nle, neq, dlT, dlF, deT, deF, dqT, dqF, nN, inb, nsb, ndv, nrm, if_true, if_false, ite_true, ite_false, true_and, and_true, and_self, and_false, false_and, or_true, true_or, or_false, false_or, or_self, ↓reduceIte, eq_self, Nat.reduceAdd, Nat.reduceMul, Nat.reduceSub, Nat.reduceDiv, Nat.reduceMod, Nat.zero_add, Nat.mul_zero, not_true_eq_false, not_false_eq_true, up_T, up_F, wr_T, wr_F, ngE, ngE', ngL, ngL', ngQ, ngQ', c1, b2T]
    rw [st]
    refine lpX (n := 96) (σ := Option mm_V × LX × List Nat × Nat × mm_I) (fun i s => Rn (d + 4) q_Reader_readAnd 4 [some (.inr (5, 0)), some (.inl (nI o)), some (.inl (nI k)), some (.inl (nI i))] [] s.2.2.2.2) (fun i s => i < s.2.1.2.1 ∧ eqo [5, 30] I s.2.2.2.2 ∧ RD T n (nI key) s.2.1 s.2.2.1 s.2.2.2.1 s.2.2.2.2 ∧ WX T n s.2.1 ∧ PQ T n key 2 3 x C W a o k h t s.2.1 s.2.2.1 s.2.2.2.1) (fun q => ∃ b I' y C1 a', q = some (some (.inl (nI (b2 b))), (sh0, I')) ∧ eqo [5, 30] I I' ∧ RD T n (nI key) y C1 a' I' ∧ WX T n y ∧ x.2.1 ≤ y.2.1 ∧ (b = true → PQ T n key 2 2 x C W a o k h t y C1 a') ∧ (b = false → RR T n key x true W C a o k t (false, y.2.1, [], 0))) ?_ ?_ 0 (none, y, C1, a1, I1) (Nat.zero_le _) ⟨by dsimp only; have := P0.2.2.1; omega, c2, c3, c4, P0⟩
    · rintro i ⟨v, y, C1, a1, K⟩ hi ⟨k0, k1, k2, k3, P⟩
      dsimp only at k0 k1 k2 k3 P ⊢
      have l6 : K 5 0 6 = nI y.1 := k2.2.1.1
      have hy1 := k3.1
      by_cases e : rkS y.1 = 2
      · have hy := rk2 e
        have hrc := rkC_s (b := y.1) (by omega)
        obtain ⟨K1, p1, p2, p3⟩ := s_RDstep (d + 2) n T (nI key) y C1 a1 K k2 ⟨hy1, k3.2.1⟩
        have nw := nx_w (x := y) (fun p hp => (k2.1.2.2 p hp).1) k3.2.1
        have k32 := k3.2.2
        have hyy : y.2.1 < (nxT T n y).2.1 := by omega
        obtain ⟨g1, g2, g3, V, C', t', g4, g5, g6, g7, g8, g9, g10⟩ := P
        obtain ⟨b, K2, z, C2, a2, q1, q2, q3, q4, q5, q6, q7⟩ := hS ho hk T n key (nxT T n y) C1 ((20000 + y.1) :: W) a1 (uB t' o (decide (2 = 3) || (decide (3 < 2) && t' o))) (h + 1) K1 ⟨p2, hkey, nw.1, g1, g2, by rw [List.length_cons]; omega, by rw [cnN, hcn, if_neg (by omega)]; rfl⟩ (St_c (by omega)) (fun z => by unfold uB; rw [if_pos rfl]; first | rfl | omega)
        have pr7 : Rn (d + 4) q_Reader_readAnd 4 [some (.inr (5, 0)), some (.inl (nI o)), some (.inl (nI k)), some (.inl (nI i))] [] K = Rn (d + 4) q_Reader_readAnd 8 [some (.inr (5, 0)), some (.inl (nI o)), some (.inl (nI k)), some (.inl (nI i))] [.inl (nI (b2 b))] K2 := by
          simp (disch := omega) only [e_Reader_readAnd_5, e_Reader_readAnd_6, e_Reader_readAnd_7, e_Reader_readAnd_4 (x3 := nI i), lit, nad, nml, bd_s, ct_s, ct_n, a11, a01, aB2, bitA, nlt, nle, neq, dlT, dlF, deT, deF, dqT, dqF, nN, inb, nsb, ndv, nrm, if_true, if_false, ite_true, ite_false, true_and, and_true, and_self, and_false, false_and, or_true, true_or, or_false, false_or, or_self, ↓reduceIte, eq_self, Nat.reduceAdd, Nat.reduceMul, Nat.reduceSub, Nat.reduceDiv, Nat.reduceMod, Nat.zero_add, Nat.mul_zero, not_true_eq_false, not_false_eq_true, up_T, up_F, wr_T, wr_F, ngE, ngE', ngL, ngL', ngQ, ngQ', l6, p1, q1]
        cases b with
        | false =>
          left
          refine ⟨false, K2, z, C2, a2, ?_, eqo_tr k1 (eqo_tr p3 q2), q3, q4, by omega, fun w => (by cases w), fun _ => g10 _ (RR_sign e (by omega) (by omega) g4 hW (by rw [← g5]; exact q7 rfl))⟩
          rw [pr7]
          simp (disch := omega) only [e_Reader_readAnd_8, e_Reader_readAnd_9, lit, nad, nml, bd_s, ct_s, ct_n, a11, a01, aB2, bitA, nlt, nle, neq, dlT, dlF, deT, deF, dqT, dqF, nN, inb, nsb, ndv, nrm, if_true, if_false, ite_true, ite_false, true_and, and_true, and_self, and_false, false_and, or_true, true_or, or_false, false_or, or_self, ↓reduceIte, eq_self, Nat.reduceAdd, Nat.reduceMul, Nat.reduceSub, Nat.reduceDiv, Nat.reduceMod, Nat.zero_add, Nat.mul_zero, not_true_eq_false, not_false_eq_true, up_T, up_F, wr_T, wr_F, ngE, ngE', ngL, ngL', ngQ, ngQ', b2F]
        | true =>
          right
          have P2 := q6 rfl
          have z1 := P2.2.2.1
          have z2 := P2
          obtain ⟨-, -, -, -, -, -, -, -, z3, -⟩ := z2
          rw [List.length_cons] at z3
          have zn := WX_s q4
          have hn := k2.1.1
          obtain ⟨K3, u1, u2, u3⟩ := s_put (d + 3) n (20000 + y.1) T (nI key) z C2 a2 K2 q3 (by omega)
          refine ⟨(some (.inl (nI y.1)), z, C2 ++ [20000 + y.1], a2, K3), ⟨by dsimp only; omega, eqo_tr k1 (eqo_tr p3 (eqo_tr q2 u3)), u2, q4, PQ_go e (by omega) hW g3 hyy g4 g5 g7 g8 (by omega) g10 P2⟩, ?_⟩
          dsimp only
          rw [pr7]
          have ey : 20000 + y.1 = 20038 := by omega
          rw [ey] at u1
          simp (disch := omega) only [e_Reader_readAnd_8, e_Reader_readAnd_10, e_Reader_readAnd_11, lit, nad, nml, bd_s, ct_s, ct_n, a11, a01, aB2, bitA, nlt, nle, neq, dlT, dlF, deT, deF, dqT, dqF, nN, inb, nsb, ndv, nrm, if_true, if_false, ite_true, ite_false, true_and, and_true, and_self, and_false, false_and, or_true, true_or, or_false, false_or, or_self, ↓reduceIte, eq_self, Nat.reduceAdd, Nat.reduceMul, Nat.reduceSub, Nat.reduceDiv, Nat.reduceMod, Nat.zero_add, Nat.mul_zero, not_true_eq_false, not_false_eq_true, up_T, up_F, wr_T, wr_F, ngE, ngE', ngL, ngL', ngQ, ngQ', u1, b2T]
      · left
        have hy := rkN2 e
        refine ⟨true, K, y, C1, a1, ?_, k1, k2, k3, by have := P.2.2.1; omega, fun _ => PQ_out P e, fun w => by cases w⟩
        simp (disch := omega) only [e_Reader_readAnd_5, e_Reader_readAnd_12, e_Reader_readAnd_4 (x3 := nI i), lit, nad, nml, bd_s, ct_s, ct_n, a11, a01, aB2, bitA, nlt, nle, neq, dlT, dlF, deT, deF, dqT, dqF, nN, inb, nsb, ndv, nrm, if_true, if_false, ite_true, ite_false, true_and, and_true, and_self, and_false, false_and, or_true, true_or, or_false, false_or, or_self, ↓reduceIte, eq_self, Nat.reduceAdd, Nat.reduceMul, Nat.reduceSub, Nat.reduceDiv, Nat.reduceMod, Nat.zero_add, Nat.mul_zero, not_true_eq_false, not_false_eq_true, up_T, up_F, wr_T, wr_F, ngE, ngE', ngL, ngL', ngQ, ngQ', l6, b2T]
    · rintro ⟨v, y, C1, a1, K⟩ ⟨k0, k1, k2, k3, P⟩
      dsimp only at k0 k2 k3
      have := WX_s k3
      have := k2.1.1
      omega
theorem s_readOr (d o k : Nat) (hS : SP (d + 4) q_Reader_readAnd 2 o k) : SP (d + 5) q_Reader_readOr 1 o k := by
  intro ho hk T n key x C W a t h I hP hW ht
  obtain ⟨b, I1, y, C1, a1, c1, c2, c3, c4, c5, c6, c7⟩ := hS ho hk T n key x C W a t h I hP (St_m hW (by omega)) (fun z => ht (by omega))
  have hkey := hP.2.1
  have hcn := hP.2.2.2.2.2.2
  cases b with
  | false =>
    refine ⟨false, I1, y, C1, a1, ?_, c2, c3, c4, c5, fun z => (by cases z), fun _ => c7 rfl⟩
    simp (disch := omega) only [n_Reader_readOr, e_Reader_readOr_0, e_Reader_readOr_1, e_Reader_readOr_2, lit, nad, nml, bd_s, ct_s, ct_n, a11, a01, aB2, bitA, nlt, nle, neq, dlT, dlF, deT, deF, dqT, dqF, nN, inb, nsb, ndv, nrm, if_true, if_false, ite_true, ite_false, true_and, and_true, and_self, and_false, false_and, or_true, true_or, or_false, false_or, or_self, ↓reduceIte, eq_self, Nat.reduceAdd, Nat.reduceMul, Nat.reduceSub, Nat.reduceDiv, Nat.reduceMod, Nat.zero_add, Nat.mul_zero, not_true_eq_false, not_false_eq_true, up_T, up_F, wr_T, wr_F, ngE, ngE', ngL, ngL', ngQ, ngQ', c1, b2F]
  | true =>
    have P0 := PQ_first (L := 1) (c6 rfl)
    have st : Sn (d + 5) q_Reader_readOr [.inr (5, 0), .inl (nI o), .inl (nI k)] I = Rn (d + 4) q_Reader_readOr 4 [some (.inr (5, 0)), some (.inl (nI o)), some (.inl (nI k)), some (.inl (nI 0))] [] I1 := by
      simp (disch := omega) only [n_Reader_readOr, e_Reader_readOr_0, e_Reader_readOr_1, e_Reader_readOr_3, lit, nad, nml, bd_s, ct_s, ct_n, a11, a01, aB2, bitA, nlt, nle, neq, dlT, dlF, deT, deF, dqT, dqF, nN, inb, nsb, ndv, nrm, if_true, if_false, ite_true, ite_false, true_and, and_true, and_self, and_false, false_and, or_true, true_or, or_false, false_or, or_self, ↓reduceIte, eq_self, Nat.reduceAdd, Nat.reduceMul, Nat.reduceSub, Nat.reduceDiv, Nat.reduceMod, Nat.zero_add, Nat.mul_zero, not_true_eq_false, not_false_eq_true, up_T, up_F, wr_T, wr_F, ngE, ngE', ngL, ngL', ngQ, ngQ', c1, b2T]
    rw [st]
    refine lpX (n := 96) (σ := Option mm_V × LX × List Nat × Nat × mm_I) (fun i s => Rn (d + 4) q_Reader_readOr 4 [some (.inr (5, 0)), some (.inl (nI o)), some (.inl (nI k)), some (.inl (nI i))] [] s.2.2.2.2) (fun i s => i < s.2.1.2.1 ∧ eqo [5, 30] I s.2.2.2.2 ∧ RD T n (nI key) s.2.1 s.2.2.1 s.2.2.2.1 s.2.2.2.2 ∧ WX T n s.2.1 ∧ PQ T n key 1 2 x C W a o k h t s.2.1 s.2.2.1 s.2.2.2.1) (fun q => ∃ b I' y C1 a', q = some (some (.inl (nI (b2 b))), (sh0, I')) ∧ eqo [5, 30] I I' ∧ RD T n (nI key) y C1 a' I' ∧ WX T n y ∧ x.2.1 ≤ y.2.1 ∧ (b = true → PQ T n key 1 1 x C W a o k h t y C1 a') ∧ (b = false → RR T n key x true W C a o k t (false, y.2.1, [], 0))) ?_ ?_ 0 (none, y, C1, a1, I1) (Nat.zero_le _) ⟨by dsimp only; have := P0.2.2.1; omega, c2, c3, c4, P0⟩
    · rintro i ⟨v, y, C1, a1, K⟩ hi ⟨k0, k1, k2, k3, P⟩
      dsimp only at k0 k1 k2 k3 P ⊢
      have l6 : K 5 0 6 = nI y.1 := k2.2.1.1
      have hy1 := k3.1
      by_cases e : rkS y.1 = 1
      · have hy := rk1 e
        have hrc := rkC_s (b := y.1) (by omega)
        obtain ⟨K1, p1, p2, p3⟩ := s_RDstep (d + 2) n T (nI key) y C1 a1 K k2 ⟨hy1, k3.2.1⟩
        have nw := nx_w (x := y) (fun p hp => (k2.1.2.2 p hp).1) k3.2.1
        have k32 := k3.2.2
        have hyy : y.2.1 < (nxT T n y).2.1 := by omega
        obtain ⟨g1, g2, g3, V, C', t', g4, g5, g6, g7, g8, g9, g10⟩ := P
        obtain ⟨b, K2, z, C2, a2, q1, q2, q3, q4, q5, q6, q7⟩ := hS ho hk T n key (nxT T n y) C1 ((20000 + y.1) :: W) a1 (uB t' o (decide (1 = 3) || (decide (3 < 1) && t' o))) (h + 1) K1 ⟨p2, hkey, nw.1, g1, g2, by rw [List.length_cons]; omega, by rw [cnN, hcn, if_neg (by omega)]; rfl⟩ (St_c (by omega)) (fun z => by unfold uB; rw [if_pos rfl]; first | rfl | omega)
        have pr7 : Rn (d + 4) q_Reader_readOr 4 [some (.inr (5, 0)), some (.inl (nI o)), some (.inl (nI k)), some (.inl (nI i))] [] K = Rn (d + 4) q_Reader_readOr 8 [some (.inr (5, 0)), some (.inl (nI o)), some (.inl (nI k)), some (.inl (nI i))] [.inl (nI (b2 b))] K2 := by
          simp (disch := omega) only [e_Reader_readOr_5, e_Reader_readOr_6, e_Reader_readOr_7, e_Reader_readOr_4 (x3 := nI i), lit, nad, nml, bd_s, ct_s, ct_n, a11, a01, aB2, bitA, nlt, nle, neq, dlT, dlF, deT, deF, dqT, dqF, nN, inb, nsb, ndv, nrm, if_true, if_false, ite_true, ite_false, true_and, and_true, and_self, and_false, false_and, or_true, true_or, or_false, false_or, or_self, ↓reduceIte, eq_self, Nat.reduceAdd, Nat.reduceMul, Nat.reduceSub, Nat.reduceDiv, Nat.reduceMod, Nat.zero_add, Nat.mul_zero, not_true_eq_false, not_false_eq_true, up_T, up_F, wr_T, wr_F, ngE, ngE', ngL, ngL', ngQ, ngQ', l6, p1, q1]
        cases b with
        | false =>
          left
          refine ⟨false, K2, z, C2, a2, ?_, eqo_tr k1 (eqo_tr p3 q2), q3, q4, by omega, fun w => (by cases w), fun _ => g10 _ (RR_sign e (by omega) (by omega) g4 hW (by rw [← g5]; exact q7 rfl))⟩
          rw [pr7]
          simp (disch := omega) only [e_Reader_readOr_8, e_Reader_readOr_9, lit, nad, nml, bd_s, ct_s, ct_n, a11, a01, aB2, bitA, nlt, nle, neq, dlT, dlF, deT, deF, dqT, dqF, nN, inb, nsb, ndv, nrm, if_true, if_false, ite_true, ite_false, true_and, and_true, and_self, and_false, false_and, or_true, true_or, or_false, false_or, or_self, ↓reduceIte, eq_self, Nat.reduceAdd, Nat.reduceMul, Nat.reduceSub, Nat.reduceDiv, Nat.reduceMod, Nat.zero_add, Nat.mul_zero, not_true_eq_false, not_false_eq_true, up_T, up_F, wr_T, wr_F, ngE, ngE', ngL, ngL', ngQ, ngQ', b2F]
        | true =>
          right
          have P2 := q6 rfl
          have z1 := P2.2.2.1
          have z2 := P2
          obtain ⟨-, -, -, -, -, -, -, -, z3, -⟩ := z2
          rw [List.length_cons] at z3
          have zn := WX_s q4
          have hn := k2.1.1
          obtain ⟨K3, u1, u2, u3⟩ := s_put (d + 3) n (20000 + y.1) T (nI key) z C2 a2 K2 q3 (by omega)
          refine ⟨(some (.inl (nI y.1)), z, C2 ++ [20000 + y.1], a2, K3), ⟨by dsimp only; omega, eqo_tr k1 (eqo_tr p3 (eqo_tr q2 u3)), u2, q4, PQ_go e (by omega) hW g3 hyy g4 g5 g7 g8 (by omega) g10 P2⟩, ?_⟩
          dsimp only
          rw [pr7]
          have ey : 20000 + y.1 = 20124 := by omega
          rw [ey] at u1
          simp (disch := omega) only [e_Reader_readOr_8, e_Reader_readOr_10, e_Reader_readOr_11, lit, nad, nml, bd_s, ct_s, ct_n, a11, a01, aB2, bitA, nlt, nle, neq, dlT, dlF, deT, deF, dqT, dqF, nN, inb, nsb, ndv, nrm, if_true, if_false, ite_true, ite_false, true_and, and_true, and_self, and_false, false_and, or_true, true_or, or_false, false_or, or_self, ↓reduceIte, eq_self, Nat.reduceAdd, Nat.reduceMul, Nat.reduceSub, Nat.reduceDiv, Nat.reduceMod, Nat.zero_add, Nat.mul_zero, not_true_eq_false, not_false_eq_true, up_T, up_F, wr_T, wr_F, ngE, ngE', ngL, ngL', ngQ, ngQ', u1, b2T]
      · left
        have hy := rkN1 e
        refine ⟨true, K, y, C1, a1, ?_, k1, k2, k3, by have := P.2.2.1; omega, fun _ => PQ_out P e, fun w => by cases w⟩
        simp (disch := omega) only [e_Reader_readOr_5, e_Reader_readOr_12, e_Reader_readOr_4 (x3 := nI i), lit, nad, nml, bd_s, ct_s, ct_n, a11, a01, aB2, bitA, nlt, nle, neq, dlT, dlF, deT, deF, dqT, dqF, nN, inb, nsb, ndv, nrm, if_true, if_false, ite_true, ite_false, true_and, and_true, and_self, and_false, false_and, or_true, true_or, or_false, false_or, or_self, ↓reduceIte, eq_self, Nat.reduceAdd, Nat.reduceMul, Nat.reduceSub, Nat.reduceDiv, Nat.reduceMod, Nat.zero_add, Nat.mul_zero, not_true_eq_false, not_false_eq_true, up_T, up_F, wr_T, wr_F, ngE, ngE', ngL, ngL', ngQ, ngQ', l6, b2T]
    · rintro ⟨v, y, C1, a1, K⟩ ⟨k0, k1, k2, k3, P⟩
      dsimp only at k0 k2 k3
      have := WX_s k3
      have := k2.1.1
      omega
