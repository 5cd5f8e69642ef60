/-! Images: hills become others; the reference copies its rows. -/
theorem onI (n : Nat) : Int32.ofNat n = nI n := rfl
theorem acT {n a b l1 l2 : Nat} (h1 : a + n ≤ l1) (h2 : b + n ≤ l2) (hn : n < 1000000) (ha : a < 1000000) (hb : b < 1000000) : (0 ≤ (nI n).toInt ∧ 0 ≤ (nI a).toInt ∧ 0 ≤ (nI b).toInt ∧ (nI a).toInt + (nI n).toInt ≤ ((l1 : Nat) : Int) ∧ (nI b).toInt + (nI n).toInt ≤ ((l2 : Nat) : Int)) = True := by
  rw [nI_toInt (by omega), nI_toInt (by omega), nI_toInt (by omega)]
  exact eq_true (by omega)
theorem s_Stretch_become (d r0 r1 : Nat) (f : Nat → Nat) (I : mm_I) (hS : StC I r1 f) (hs : f 7 ≤ 1) (hr : r0 ≠ r1) : ∃ I', Sn (d + 1) q_Stretch_become [.inr (8, r0), .inr (8, r1)] I = some (none, (sh0, I')) ∧ StC I' r0 f ∧ ∀ k i, ¬ (k = 8 ∧ i = r0) → I' k i = I k i := by
  obtain ⟨h0, h1, h2, h3, h4, h5, h6, h7, h8⟩ := hS
  have hb : nI (f 7) &&& nI 1 = nI (f 7) := by
    rcases (show f 7 = 0 ∨ f 7 = 1 by omega) with e | e <;> rw [e] <;> rfl
  refine ⟨mm_up (mm_up (mm_up (mm_up (mm_up (mm_up (mm_up (mm_up (mm_up I 8 r0 0 (nI (f 0))) 8 r0 1 (nI (f 1))) 8 r0 2 (nI (f 2))) 8 r0 3 (nI (f 3))) 8 r0 4 (nI (f 4))) 8 r0 5 (nI (f 6))) 8 r0 6 (nI (f 5))) 8 r0 7 (nI (f 8))) 8 r0 8 (nI (f 7)), ?_, ?_, ?_⟩
  · simp (disch := omega) only [n_Stretch_become, e_Stretch_become_0, lit, nad, nml, bd_s, ct_s, ct_n, a11, a01, aB2, bitA, nlt, nle, neq, dlT, dlF, deT, deF, dqT, dqF, nN, inb, nsb, ndv, nrm, if_true, if_false, ite_true, ite_false, true_and, and_true, and_self, and_false, false_and, or_true, true_or, or_false, false_or, or_self, reduceIte, eq_self, Nat.reduceAdd, Nat.reduceMul, Nat.reduceSub, Nat.reduceDiv, Nat.reduceMod, not_true_eq_false, not_false_eq_true, up_T, up_F, wr_T, wr_F, ngE, ngE', ngL, ngL', ngQ, ngQ', h0, h1, h2, h3, h4, h5, h6, h7, h8, hb]
  · unfold StC
    simp (disch := omega) only [up_T, up_F, and_self]
  · intro k i h
    funext j
    simp (disch := omega) only [up_F]
theorem sc_b {r : Nat} (h : r < 21) : sc_cells r ≤ 80 := by
  obtain ⟨a, b, c⟩ := tMW h
  rw [a]
  exact Nat.mul_le_mul b c
theorem sc_m {r r' : Nat} (h : r % 7 = r' % 7) : sc_cells r = sc_cells r' := by unfold sc_cells; rw [h]
theorem s_Rows_become (d r0 r1 n : Nat) (I : mm_I) (h0 : r0 < 21) (h1 : r1 < 21) (hm : r0 % 7 = r1 % 7) (hr : r0 ≠ r1) (F : Fix I) (hn : I 7 r1 3 = nI n) (hb : n ≤ tM (r0 % 7)) : Sn (d + 1) q_Rows_become [.inr (7, r0), .inr (7, r1)] I = some (none, (sh0, wr (mm_up I 7 r0 3 (nI n)) 37 r0 0 (sc_cells r0) (fun j => I 37 r1 j))) := by
  obtain ⟨f1, f2⟩ := F r0 h0
  obtain ⟨m1, m2, m3⟩ := tMW h0
  have sb := sc_b h0
  have e : sc_cells r1 = sc_cells r0 := sc_m hm.symm
  have hmin : (if nI (tM (r0 % 7)) ≤ nI n then nI (tM (r0 % 7)) else nI n) = nI n := by
    split
    · rename_i q
      rw [nle (by omega) (by omega)] at q
      rw [show tM (r0 % 7) = n by omega]
    · rfl
  simp (disch := omega) only [n_Rows_become, e_Rows_become_0, e, onI, lit, f1, hn, hmin, Int32.le_refl, if_true, acT, nN, cp_wr, Nat.zero_add, up_F]
theorem RepR_cp {a b : Nat} {A : mm_A} {I I' : mm_I} (hR : RepR a A I) (g : Good A) (h : ∀ j, j < 1941 → I' 47 b j = I 47 a j) : RepR b A I' := by
  obtain ⟨h1, h2, h3, h4, h5⟩ := hR
  have hN := g.1.1
  have hX := g.1.2.1
  refine ⟨fun c hc => by rw [h c (by omega)]; exact h1 c hc, fun p c hp hc => by rw [h _ (by omega)]; exact h2 p c hp hc, fun y hy => by rw [h _ (by omega)]; exact h3 y hy, fun r hr => ?_, fun t r c ht hr hc => ?_⟩
  · have hl := (g.2.2.2.2.1 r hr).2.2.2.2.1
    rw [h _ (by omega), h _ (by omega), h _ (by omega), h _ (by omega)]
    obtain ⟨q1, q2, q3, q4, q5⟩ := h4 r hr
    exact ⟨q1, q2, q3, q4, fun k hk => by rw [h _ (by omega)]; exact q5 k hk⟩
  · have := adr_in ht (Nat.lt_of_lt_of_le hr (g.2.1 t ht)) hc
    rw [h _ (by omega)]; exact h5 t r c ht hr hc
theorem s_M_copyAll (d a b : Nat) (I : mm_I) (hab : a ≠ b) : Sn (d + 1) q_M_copyAll [.inr (47, a), .inr (47, b)] I = some (none, (sh0, wr I 47 b 0 1941 (fun j => I 47 a j))) := by
  rw [n_M_copyAll, e_M_copyAll_0]
  refine lpX (n := 1941) (σ := mm_I) (fun i s => Rn d q_M_copyAll 1 [some (.inr (47, a)), some (.inr (47, b)), some (.inl (nI i))] [] s) (fun i s => s = wr I 47 b 0 i (fun j => I 47 a j)) (fun r => r = _) (fun i s hi hV => Or.inr ⟨mm_up s 47 b i (I 47 a i), by
    rw [hV]
    have := wr_s I 47 b 0 i (fun j => I 47 a j)
    rw [Nat.zero_add] at this
    exact this, by
      have : s 47 a i = I 47 a i := by rw [hV, wr_F (by omega)]
      simp (disch := omega) only [e_M_copyAll_2, e_M_copyAll_1 (x2 := nI i), lit, nad, nml, bd_s, ct_s, ct_n, a11, a01, aB2, bitA, nlt, nle, neq, dlT, dlF, deT, deF, dqT, dqF, nN, inb, nsb, ndv, nrm, if_true, if_false, ite_true, ite_false, true_and, and_true, and_self, and_false, false_and, or_true, true_or, or_false, false_or, or_self, reduceIte, eq_self, Nat.reduceAdd, Nat.reduceMul, Nat.reduceSub, Nat.reduceDiv, Nat.reduceMod, not_true_eq_false, not_false_eq_true, up_T, up_F, wr_T, wr_F, ngE, ngE', ngL, ngL', ngQ, ngQ', this]⟩) (fun s hV => by
      rw [hV]
      simp (disch := omega) only [e_M_copyAll_1, e_M_copyAll_3, lit, nad, nml, bd_s, ct_s, ct_n, a11, a01, aB2, bitA, nlt, nle, neq, dlT, dlF, deT, deF, dqT, dqF, nN, inb, nsb, ndv, nrm, if_true, if_false, ite_true, ite_false, true_and, and_true, and_self, and_false, false_and, or_true, true_or, or_false, false_or, or_self, reduceIte, eq_self, Nat.reduceAdd, Nat.reduceMul, Nat.reduceSub, Nat.reduceDiv, Nat.reduceMod, not_true_eq_false, not_false_eq_true, up_T, up_F, wr_T, wr_F, ngE, ngE', ngL, ngL', ngQ, ngQ']) 0 _ (Nat.zero_le _) (wr_0 _ _ _ _ _).symm
theorem s_M_widths (d : Nat) (A : mm_A) (I : mm_I) (hR : RepR 0 A I) (g : Good A) : Sn (d + 2) q_M_widths [.inr (12, 0)] I = some (some (.inl (nI (sm (fun p => A 1 p 5) (A 0 0 0)))), (sh0, I)) := by
  have hn := g.1.1
  have h0 : I 47 0 0 = nI (A 0 0 0) := hR.1 0 (by decide)
  rw [n_M_widths, e_M_widths_0]
  refine lpX (n := A 0 0 0) (σ := Nat) (fun i s => Rn (d + 1) q_M_widths 1 [some (.inr (12, 0)), some (.inl (nI s)), some (.inl (nI i))] [] I) (fun i s => s = sm (fun p => A 1 p 5) i) (fun r => r = _) (fun i s hi hV => Or.inr ⟨s + A 1 i 5, by rw [hV, sm], by
    have o := s_M_of9 d i 5 A I hR g hi (by decide)
    simp (disch := omega) only [e_M_widths_2, e_M_widths_3, e_M_widths_1 (x2 := nI i), lit, nad, nml, bd_s, ct_s, ct_n, a11, a01, aB2, bitA, nlt, nle, neq, dlT, dlF, deT, deF, dqT, dqF, nN, inb, nsb, ndv, nrm, if_true, if_false, ite_true, ite_false, true_and, and_true, and_self, and_false, false_and, or_true, true_or, or_false, false_or, or_self, reduceIte, eq_self, Nat.reduceAdd, Nat.reduceMul, Nat.reduceSub, Nat.reduceDiv, Nat.reduceMod, not_true_eq_false, not_false_eq_true, up_T, up_F, wr_T, wr_F, ngE, ngE', ngL, ngL', ngQ, ngQ', h0, o]⟩) (fun s hV => by
      rw [hV]
      simp (disch := omega) only [e_M_widths_1, e_M_widths_4, lit, nad, nml, bd_s, ct_s, ct_n, a11, a01, aB2, bitA, nlt, nle, neq, dlT, dlF, deT, deF, dqT, dqF, nN, inb, nsb, ndv, nrm, if_true, if_false, ite_true, ite_false, true_and, and_true, and_self, and_false, false_and, or_true, true_or, or_false, false_or, or_self, reduceIte, eq_self, Nat.reduceAdd, Nat.reduceMul, Nat.reduceSub, Nat.reduceDiv, Nat.reduceMod, not_true_eq_false, not_false_eq_true, up_T, up_F, wr_T, wr_F, ngE, ngE', ngL, ngL', ngQ, ngQ', h0]) 0 0 (Nat.zero_le _) rfl
/-- tables below t have been copied from hills b to hills a -/
def PB (a b : Nat) (A : mm_A) (I : mm_I) (t : Nat) (J : mm_I) : Prop := RepC b A J ∧ Fix J ∧ fr (hc a) I J ∧ (∀ p, p < A 0 0 0 → StC J (16 * a + p) (A 1 p)) ∧ ∀ t', t' < t → J 7 (7 * a + t') 3 = nI (A 0 0 (tH t')) ∧ ∀ r c, r < A 0 0 (tH t') → c < tW t' → J 37 (7 * a + t') (r * tW t' + c) = nI (A (4 + t') r c)
theorem hc_dis {a b k i : Nat} (hab : a ≠ b) (h : hc b k i ∨ k = 9 ∨ k = 38) : ¬ hc a k i := by unfold hc at *; omega
theorem PB_step {a b t : Nat} {A : mm_A} {I J : mm_I} (d : Nat) (g : Good A) (hab : a ≠ b) (ha : a < 3) (hb : b < 3) (ht : t < 7) (h : PB a b A I t J) : ∃ J', Sn (d + 1) q_Rows_become [.inr (7, 7 * a + t), .inr (7, 7 * b + t)] J = some (none, (sh0, J')) ∧ PB a b A I (t + 1) J' ∧ J' 3 = J 3 ∧ J' 28 = J 28 := by
  obtain ⟨h1, h2, h3, h4, h5⟩ := h
  have e0 : (7 * a + t) % 7 = t := by omega
  have e1 : (7 * b + t) % 7 = t := by omega
  have hbd : A 0 0 (tH t) ≤ tM t := g.2.1 t ht
  have hs := s_Rows_become d (7 * a + t) (7 * b + t) (A 0 0 (tH t)) J (by omega) (by omega) (by omega) (by omega) h2 (h1.2.1 t ht) (by rw [e0]; exact hbd)
  have hsc : sc_cells (7 * a + t) = tM t * tW t := by
    have := (tMW (show 7 * a + t < 21 by omega)).1
    rw [e0] at this
    exact this
  refine ⟨_, hs, ⟨?_, Fix_wr (Fix_up h2 (by omega)) (by omega), fr_wr (fr_up h3 (by unfold hc; omega)) (by unfold hc; omega), ?_, ?_⟩, ?_, ?_⟩
  · refine RepC_fr h1 g (fun k i q => ?_)
    have := hc_dis hab q
    unfold hc at this
    funext j
    rw [wr_F (by omega), up_F (by omega)]
  · intro p hp
    have := g.1.1
    exact StC_c (h4 p hp) (by funext j; rw [wr_F (by omega), up_F (by omega)])
  · intro t' ht'
    rcases Nat.lt_or_ge t' t with q | q
    · obtain ⟨x1, x2⟩ := h5 t' q
      refine ⟨by rw [wr_F (by omega), up_F (by omega)]; exact x1, fun r c hr hc => by rw [wr_F (by omega), up_F (by omega)]; exact x2 r c hr hc⟩
    · have e : t' = t := by omega
      subst e
      refine ⟨by rw [wr_F (by omega), up_s], fun r c hr hc => ?_⟩
      have := idx (Nat.lt_of_lt_of_le hr hbd) hc
      rw [wr_T (by omega), Nat.sub_zero]
      exact h1.2.2.2.2.2 t' r c ht hr hc
  · funext i j
    rw [wr_F (by omega), up_F (by omega)]
  · funext i j
    rw [wr_F (by omega), up_F (by omega)]
theorem PB_3 {a b t s : Nat} {x : Int32} {A : mm_A} {I J : mm_I} (g : Good A) (hab : a ≠ b) (h : PB a b A I t J) : PB a b A I t (mm_up J 3 a s x) := by
  obtain ⟨h1, h2, h3, h4, h5⟩ := h
  refine ⟨RepC_fr h1 g (fun k i q => ?_), Fix_up h2 (by omega), fr_up h3 (by unfold hc; omega), fun p hp => StC_c (h4 p hp) (by funext j; rw [up_F (by omega)]), fun t' ht' => ?_⟩
  · have := hc_dis hab q
    unfold hc at this
    funext j
    rw [up_F (by omega)]
  · obtain ⟨x1, x2⟩ := h5 t' ht'
    exact ⟨by rw [up_F (by omega)]; exact x1, fun r c hr hc => by rw [up_F (by omega)]; exact x2 r c hr hc⟩
theorem PB_28 {a b t n : Nat} {v : Nat → Int32} {A : mm_A} {I J : mm_I} (g : Good A) (hab : a ≠ b) (h : PB a b A I t J) : PB a b A I t (wr J 28 a 0 n v) := by
  obtain ⟨h1, h2, h3, h4, h5⟩ := h
  refine ⟨RepC_fr h1 g (fun k i q => ?_), Fix_wr h2 (by omega), fr_wr h3 (by unfold hc; omega), fun p hp => StC_c (h4 p hp) (by funext j; rw [wr_F (by omega)]), fun t' ht' => ?_⟩
  · have := hc_dis hab q
    unfold hc at this
    funext j
    rw [wr_F (by omega)]
  · obtain ⟨x1, x2⟩ := h5 t' ht'
    exact ⟨by rw [wr_F (by omega)]; exact x1, fun r c hr hc => by rw [wr_F (by omega)]; exact x2 r c hr hc⟩
theorem s_Hills_become (d a b : Nat) (A : mm_A) (I : mm_I) (hC : RepC b A I) (F : Fix I) (g : Good A) (hab : a ≠ b) (ha : a < 3) (hb : b < 3) : ∃ I', Sn (d + 2) q_Hills_become [.inr (3, a), .inr (3, b)] I = some (none, (sh0, I')) ∧ RepC a A I' ∧ Fix I' ∧ fr (hc a) I I' := by
  have hN := g.1.1
  rw [n_Hills_become, e_Hills_become_0]
  have l1 := lpX (n := A 0 0 0) (σ := mm_I) (fun i s => Rn (d + 1) q_Hills_become 1 [some (.inr (3, a)), some (.inr (3, b)), some (.inl (nI i))] [] s) (fun i s => RepC b A s ∧ Fix s ∧ fr (hc a) I s ∧ ∀ p, p < i → StC s (16 * a + p) (A 1 p)) (fun q => ∃ J, PB a b A I 0 J ∧ q = Rn (d + 1) q_Hills_become 4 [some (.inr (3, a)), some (.inr (3, b)), some (.inl (nI (A 0 0 0)))] [] J) (by
    rintro i J hi ⟨j1, j2, j3, j4⟩
    obtain ⟨J', s1, s2, s3⟩ := s_Stretch_become d (16 * a + i) (16 * b + i) (A 1 i) J (j1.2.2.1 i hi) (stG g hi).2.2.2.2.2.2.2.2.2.2.1 (by omega)
    have hst := j1.1.1
    refine Or.inr ⟨J', ⟨RepC_fr j1 g (fun k i' q => ?_), Fix_o j2 (fun r j _ => by rw [s3 7 r (by omega)]), ?_, ?_⟩, ?_⟩
    · have := hc_dis hab q
      unfold hc at this
      exact s3 k i' (by omega)
    · intro k i' q
      rw [← j3 k i' q]
      exact s3 k i' (by unfold hc at q; omega)
    · intro p hp
      rcases Nat.lt_or_ge p i with q | q
      · exact StC_c (j4 p q) (s3 8 _ (by omega))
      · rw [show p = i by omega]; exact s2
    · simp (disch := omega) only [e_Hills_become_2, e_Hills_become_3, e_Hills_become_1 (x2 := nI i), hst, s1, lit, nad, nml, bd_s, ct_s, ct_n, a11, a01, aB2, bitA, nlt, nle, neq, dlT, dlF, deT, deF, dqT, dqF, nN, inb, nsb, ndv, nrm, if_true, if_false, ite_true, ite_false, true_and, and_true, and_self, and_false, false_and, or_true, true_or, or_false, false_or, or_self, reduceIte, eq_self, Nat.reduceAdd, Nat.reduceMul, Nat.reduceSub, Nat.reduceDiv, Nat.reduceMod, not_true_eq_false, not_false_eq_true, up_T, up_F, wr_T, wr_F, ngE, ngE', ngL, ngL', ngQ, ngQ']) (by
    rintro J ⟨j1, j2, j3, j4⟩
    have hst := j1.1.1
    exact ⟨J, ⟨j1, j2, j3, j4, fun t' ht' => by omega⟩, by simp (disch := omega) only [e_Hills_become_1, hst, lit, nad, nml, bd_s, ct_s, ct_n, a11, a01, aB2, bitA, nlt, nle, neq, dlT, dlF, deT, deF, dqT, dqF, nN, inb, nsb, ndv, nrm, if_true, if_false, ite_true, ite_false, true_and, and_true, and_self, and_false, false_and, or_true, true_or, or_false, false_or, or_self, reduceIte, eq_self, Nat.reduceAdd, Nat.reduceMul, Nat.reduceSub, Nat.reduceDiv, Nat.reduceMod, not_true_eq_false, not_false_eq_true, up_T, up_F, wr_T, wr_F, ngE, ngE', ngL, ngL', ngQ, ngQ']⟩) 0 I (Nat.zero_le _) ⟨hC, F, fr_rf _ _, fun p hp => by omega⟩
  obtain ⟨J, p0, k0⟩ := l1
  have k0' : Rn (d + 1) q_Hills_become 1 [some (.inr (3, a)), some (.inr (3, b)), some (.inl 0)] [] I = Rn (d + 1) q_Hills_become 4 [some (.inr (3, a)), some (.inr (3, b)), some (.inl (nI (A 0 0 0)))] [] J := k0
  rw [k0']
  have b1 : J 3 b 1 = nI (A 0 0 0) := p0.1.1.1
  obtain ⟨J1, r1, p1, c1, z1⟩ := PB_step d g hab ha hb (by decide) (PB_3 (s := 1) (x := nI (A 0 0 0)) g hab p0)
  simp only [Nat.add_zero] at r1
  have b4 : J1 3 b 4 = nI (A 0 0 11) := p1.1.1.2.2.2.2
  have b5 : J1 3 b 5 = nI (A 0 0 2) := p1.1.1.2.1
  have p1' : PB a b A I 1 (mm_up (mm_up (wr J1 28 a 0 201 (fun j => J1 28 b j)) 3 a 4 (nI (A 0 0 11))) 3 a 5 (nI (A 0 0 2))) := PB_3 g hab (PB_3 g hab (PB_28 g hab p1))
  obtain ⟨J2, r2, p2, c2, z2⟩ := PB_step d g hab ha hb (by decide) p1'
  have b7 : J2 3 b 7 = nI (A 0 0 10) := p2.1.1.2.2.2.1
  obtain ⟨J3, r3, p3, c3, z3⟩ := PB_step d g hab ha hb (by decide) (PB_3 (s := 7) (x := nI (A 0 0 10)) g hab p2)
  obtain ⟨J4, r4, p4, c4, z4⟩ := PB_step d g hab ha hb (by decide) p3
  obtain ⟨J5, r5, p5, c5, z5⟩ := PB_step d g hab ha hb (by decide) p4
  obtain ⟨J6, r6, p6, c6, z6⟩ := PB_step d g hab ha hb (by decide) p5
  obtain ⟨J7, r7, p7, c7, z7⟩ := PB_step d g hab ha hb (by decide) p6
  have b13 : J7 3 b 13 = nI (A 0 0 9) := p7.1.1.2.2.1
  have p8 := PB_3 (s := 13) (x := nI (A 0 0 9)) g hab p7
  refine ⟨mm_up J7 3 a 13 (nI (A 0 0 9)), ?_, ⟨?_, fun t ht => (p8.2.2.2.2 t ht).1, p8.2.2.2.1, ?_, ?_, fun t r c ht hr hc => (p8.2.2.2.2 t ht).2 r c hr hc⟩, p8.2.1, p8.2.2.1⟩
  · simp (disch := omega) only [e_Hills_become_4, e_Hills_become_5, e_Hills_become_6, e_Hills_become_7, e_Hills_become_8, e_Hills_become_9, e_Hills_become_10, e_Hills_become_11, b1, r1, b4, b5, r2, b7, r3, r4, r5, r6, r7, b13, lit, acT, nN, cp_wr, Nat.zero_add, up_F, wr_F, if_true, bd_s, ct_n]
  · have q3 : J7 3 = J3 3 := by rw [c7, c6, c5, c4]
    have q4 : J7 3 a 1 = nI (A 0 0 0) := by
      rw [q3, c3, up_F (by omega), c2, up_F (by omega), up_F (by omega), wr_F (by omega), c1, up_s]
    have q5 : J7 3 a 5 = nI (A 0 0 2) := by
      rw [q3, c3, up_F (by omega), c2, up_s]
    have q6 : J7 3 a 7 = nI (A 0 0 10) := by
      rw [q3, c3, up_s]
    have q7 : J7 3 a 4 = nI (A 0 0 11) := by
      rw [q3, c3, up_F (by omega), c2, up_F (by omega), up_s]
    exact ⟨by rw [up_F (by omega)]; exact q4, by rw [up_F (by omega)]; exact q5, up_s _ _ _ _ _, by rw [up_F (by omega)]; exact q6, by rw [up_F (by omega)]; exact q7⟩
  · intro y hy
    rw [up_F (by omega), z7, z6, z5, z4, z3, up_F (by omega), z2, up_F (by omega), up_F (by omega), wr_T (by omega), Nat.sub_zero]
    exact p1.1.2.2.2.1 y hy
  · intro r hr
    have e9 : (mm_up J7 3 a 13 (nI (A 0 0 9))) 9 r = I 9 r := p8.2.2.1 9 r (by unfold hc; omega)
    have e38 : (mm_up J7 3 a 13 (nI (A 0 0 9))) 38 r = I 38 r := p8.2.2.1 38 r (by unfold hc; omega)
    rw [e9, e38]
    exact hC.2.2.2.2.1 r hr
