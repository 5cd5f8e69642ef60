/-! The class's walk. -/
def wgt (A : mm_A) (x p : Nat) : Nat := if op A x p = true then wt A p else 0
theorem op_T {A : mm_A} {x p : Nat} (h : A 1 p 7 = 0) (h2 : p ≠ x) : op A x p = true := by unfold op; simp [h, h2]
theorem op_F {A : mm_A} {x p : Nat} (h : A 1 p 7 ≠ 0 ∨ p = x) : op A x p = false := by unfold op; rcases h with h | h <;> simp [h]
theorem wgt_b {A : mm_A} {x p : Nat} (g : GE A) (hp : p < A 0 0 0) : wgt A x p ≤ 46801 := by
  have := g.2 p hp
  unfold wgt wt
  split <;> omega
theorem s_Walk_weigh (d h x : Nat) (z : Int32) (A : mm_A) (I : mm_I) (hC : RepC h A I) (g : Good A) (hz : ∀ p, p < 16 → (nI p = z ↔ p = x)) : Sn (d + 2) q_Walk_weigh [.inr (10, 0), .inr (3, h), .inl z] I = some (none, (sh0, wr I 40 0 0 (A 0 0 0) (fun p => nI (wgt A x p)))) := by
  have hn := g.1.1
  rw [n_Walk_weigh, e_Walk_weigh_0]
  refine lpX (n := A 0 0 0) (σ := mm_I × Option mm_V) (fun i s => Rn (d + 1) q_Walk_weigh 1 [some (.inr (10, 0)), some (.inr (3, h)), some (.inl z), some (.inl (nI i)), s.2] [] s.1) (fun i s => s.1 = wr I 40 0 0 i (fun p => nI (wgt A x p))) (fun r => r = _) ?_ ?_ 0 (I, none) (Nat.zero_le _) (wr_0 _ _ _ _ _).symm
  · rintro i ⟨J, v⟩ hi hV
    dsimp only at hV
    have hS : StC J (16 * h + i) (A 1 i) := StC_c (hC.2.2.1 i hi) (by rw [hV]; funext j; exact wr_F (by omega))
    have h3 : J 3 h 1 = nI (A 0 0 0) := by rw [hV, wr_F (by omega)]; exact hC.1.1
    have hG := g.2.2.1 i hi
    have he := s_Stretch_effort d (16 * h + i) (A 1 i) J hS hG
    have hb := eff_pos hG
    have h8 : J 8 (16 * h + i) 8 = nI (A 1 i 7) := hS.2.2.2.2.2.2.2.1
    have hs1 : A 1 i 7 ≤ 1 := hG.2.2.2.2.2.2.2.2.2.2.1
    refine Or.inr ⟨(mm_up J 40 0 i (nI (wgt A x i)), some (.inr (8, 16 * h + i))), ?_, ?_⟩
    · dsimp only
      rw [hV]
      have := wr_s I 40 0 0 i (fun p => nI (wgt A x p))
      rw [Nat.zero_add] at this
      exact this
    · dsimp only
      by_cases e1 : A 1 i 7 = 0
      · by_cases e2 : i = x
        · have ho : wgt A x i = 0 := by unfold wgt; rw [op_F (Or.inr e2)]; rfl
          simp (disch := omega) only [e_Walk_weigh_2, e_Walk_weigh_3, e_Walk_weigh_4, e_Walk_weigh_7, e_Walk_weigh_1 (x3 := nI i), h3, h8, e1, hz, lit, nad, nml, bd_s, ct_s, ct_n, a11, a01, aB2, bitA, nlt, nle, neq, dlT, dlF, deT, deF, dqT, dqF, nN, inb, nsb, ndv, nrm, if_true, if_false, ite_true, ite_false, true_and, and_true, and_self, and_false, false_and, or_true, true_or, or_false, false_or, or_self, reduceIte, eq_self, Nat.reduceAdd, Nat.reduceMul, Nat.reduceSub, Nat.reduceDiv, Nat.reduceMod, not_true_eq_false, not_false_eq_true, up_T, up_F, wr_T, wr_F, ngE, ngE', ngL, ngL', ngQ, ngQ', ho]
        · have ho : wgt A x i = effF (A 1 i) * 16 + 1 := by unfold wgt; rw [op_T e1 e2, if_pos rfl]; unfold wt; omega
          simp (disch := omega) only [e_Walk_weigh_2, e_Walk_weigh_3, e_Walk_weigh_4, e_Walk_weigh_5, e_Walk_weigh_6, e_Walk_weigh_7, e_Walk_weigh_1 (x3 := nI i), h3, h8, e1, hz, lit, nad, nml, bd_s, ct_s, ct_n, a11, a01, aB2, bitA, nlt, nle, neq, dlT, dlF, deT, deF, dqT, dqF, nN, inb, nsb, ndv, nrm, if_true, if_false, ite_true, ite_false, true_and, and_true, and_self, and_false, false_and, or_true, true_or, or_false, false_or, or_self, reduceIte, eq_self, Nat.reduceAdd, Nat.reduceMul, Nat.reduceSub, Nat.reduceDiv, Nat.reduceMod, not_true_eq_false, not_false_eq_true, up_T, up_F, wr_T, wr_F, ngE, ngE', ngL, ngL', ngQ, ngQ', ho, he]
      · have ho : wgt A x i = 0 := by unfold wgt; rw [op_F (Or.inl e1)]; rfl
        simp (disch := omega) only [e_Walk_weigh_2, e_Walk_weigh_3, e_Walk_weigh_4, e_Walk_weigh_7, e_Walk_weigh_1 (x3 := nI i), h3, h8, hz, lit, nad, nml, bd_s, ct_s, ct_n, a11, a01, aB2, bitA, nlt, nle, neq, dlT, dlF, deT, deF, dqT, dqF, nN, inb, nsb, ndv, nrm, if_true, if_false, ite_true, ite_false, true_and, and_true, and_self, and_false, false_and, or_true, true_or, or_false, false_or, or_self, reduceIte, eq_self, Nat.reduceAdd, Nat.reduceMul, Nat.reduceSub, Nat.reduceDiv, Nat.reduceMod, not_true_eq_false, not_false_eq_true, up_T, up_F, wr_T, wr_F, ngE, ngE', ngL, ngL', ngQ, ngQ', ho]
  · rintro ⟨J, v⟩ hV
    dsimp only at hV ⊢
    have h3 : J 3 h 1 = nI (A 0 0 0) := by rw [hV, wr_F (by omega)]; exact hC.1.1
    simp (disch := omega) only [e_Walk_weigh_1, e_Walk_weigh_8, h3, lit, nad, nml, bd_s, ct_s, ct_n, a11, a01, aB2, bitA, nlt, nle, neq, dlT, dlF, deT, deF, dqT, dqF, nN, inb, nsb, ndv, nrm, if_true, if_false, ite_true, ite_false, true_and, and_true, and_self, and_false, false_and, or_true, true_or, or_false, false_or, or_self, reduceIte, eq_self, Nat.reduceAdd, Nat.reduceMul, Nat.reduceSub, Nat.reduceDiv, Nat.reduceMod, not_true_eq_false, not_false_eq_true, up_T, up_F, wr_T, wr_F, ngE, ngE', ngL, ngL', ngQ, ngQ']
    rw [hV]
def TG (I : mm_I) (t : Nat → Nat) : Prop := ∀ c, c < 10 → I 41 0 c = nI (t c)
theorem TG_up {I : mm_I} {t : Nat → Nat} {a y : Nat} (h : TG I t) : TG (mm_up I 41 0 a (nI y)) (uN t a y) := fun c hc => by
  by_cases e : c = a
  · rw [e, up_s, uN_s]
  · rw [up_F (by omega), uN_n e]; exact h c hc
theorem s_Walk_bringNearer (d r w : Nat) (f t : Nat → Nat) (I : mm_I) (hS : StC I r f) (f0 : f 0 < 10) (f1 : f 1 < 10) (hT : TG I t) (hb : ∀ c, c < 10 → t c ≤ 536870912) (hw : w ≤ 46801) : Sn (d + 1) q_Walk_bringNearer [.inr (10, 0), .inr (8, r), .inl (nI w)] I = if t (f 1) + w < t (f 0) then some (some (.inl (nI 1)), (sh0, mm_up I 41 0 (f 0) (nI (t (f 1) + w)))) else if t (f 0) + w < t (f 1) then some (some (.inl (nI 1)), (sh0, mm_up I 41 0 (f 1) (nI (t (f 0) + w)))) else some (some (.inl (nI 0)), (sh0, I)) := by
  obtain ⟨h0, h1, -⟩ := hS
  have a0 := hT _ f0
  have a1 := hT _ f1
  have b0 := hb _ f0
  have b1 := hb _ f1
  by_cases e : t (f 1) + w < t (f 0)
  · simp (disch := omega) only [n_Walk_bringNearer, e_Walk_bringNearer_0, e_Walk_bringNearer_1, e_Walk_bringNearer_2, e_Walk_bringNearer_3, e_Walk_bringNearer_4, h0, h1, a0, a1, lit, nad, nml, bd_s, ct_s, ct_n, a11, a01, aB2, bitA, nlt, nle, neq, dlT, dlF, deT, deF, dqT, dqF, nN, inb, nsb, ndv, nrm, if_true, if_false, ite_true, ite_false, true_and, and_true, and_self, and_false, false_and, or_true, true_or, or_false, false_or, or_self, reduceIte, eq_self, Nat.reduceAdd, Nat.reduceMul, Nat.reduceSub, Nat.reduceDiv, Nat.reduceMod, not_true_eq_false, not_false_eq_true, up_T, up_F, wr_T, wr_F, ngE, ngE', ngL, ngL', ngQ, ngQ']
  · by_cases e2 : t (f 0) + w < t (f 1)
    · simp (disch := omega) only [n_Walk_bringNearer, e_Walk_bringNearer_0, e_Walk_bringNearer_1, e_Walk_bringNearer_2, e_Walk_bringNearer_3, e_Walk_bringNearer_4, h0, h1, a0, a1, lit, nad, nml, bd_s, ct_s, ct_n, a11, a01, aB2, bitA, nlt, nle, neq, dlT, dlF, deT, deF, dqT, dqF, nN, inb, nsb, ndv, nrm, if_true, if_false, ite_true, ite_false, true_and, and_true, and_self, and_false, false_and, or_true, true_or, or_false, false_or, or_self, reduceIte, eq_self, Nat.reduceAdd, Nat.reduceMul, Nat.reduceSub, Nat.reduceDiv, Nat.reduceMod, not_true_eq_false, not_false_eq_true, up_T, up_F, wr_T, wr_F, ngE, ngE', ngL, ngL', ngQ, ngQ']
    · simp (disch := omega) only [n_Walk_bringNearer, e_Walk_bringNearer_0, e_Walk_bringNearer_1, e_Walk_bringNearer_2, e_Walk_bringNearer_3, e_Walk_bringNearer_4, h0, h1, a0, a1, lit, nad, nml, bd_s, ct_s, ct_n, a11, a01, aB2, bitA, nlt, nle, neq, dlT, dlF, deT, deF, dqT, dqF, nN, inb, nsb, ndv, nrm, if_true, if_false, ite_true, ite_false, true_and, and_true, and_self, and_false, false_and, or_true, true_or, or_false, false_or, or_self, reduceIte, eq_self, Nat.reduceAdd, Nat.reduceMul, Nat.reduceSub, Nat.reduceDiv, Nat.reduceMod, not_true_eq_false, not_false_eq_true, up_T, up_F, wr_T, wr_F, ngE, ngE', ngL, ngL', ngQ, ngQ']
theorem s_Walk_measure (d h x to : Nat) (A : mm_A) (I : mm_I) (hC : RepC h A I) (g : Good A) (ht : to < 10) (hw : ∀ p, p < A 0 0 0 → I 40 0 p = nI (wgt A x p)) : ∃ I', Sn (d + 2) q_Walk_measure [.inr (10, 0), .inr (3, h), .inl (nI to)] I = some (none, (sh0, I')) ∧ eqo [41] I I' ∧ TG I' (ds A x to) := by
  have hn := g.1.1
  have gE := GE_of g
  rw [n_Walk_measure, e_Walk_measure_0]
  have l1 := lpX (n := 10) (σ := mm_I) (fun i s => Rn (d + 1) q_Walk_measure 1 [some (.inr (10, 0)), some (.inr (3, h)), some (.inl (nI to)), some (.inl (nI i)), none, none] [] s) (fun i s => s = wr I 41 0 0 i (fun _ => nI 536870912)) (fun r => r = Rn (d + 1) q_Walk_measure 4 [some (.inr (10, 0)), some (.inr (3, h)), some (.inl (nI to)), some (.inl (nI 1)), some (.inl (nI 0)), none] [] (mm_up (wr I 41 0 0 10 (fun _ => nI 536870912)) 41 0 to (nI 0))) (fun i s hi hV => Or.inr ⟨mm_up s 41 0 i (nI 536870912), by
    rw [hV]
    have := wr_s I 41 0 0 i (fun _ => nI 536870912)
    rw [Nat.zero_add] at this
    exact this, by simp (disch := omega) only [e_Walk_measure_2, e_Walk_measure_1 (x3 := nI i), lit, nad, nml, bd_s, ct_s, ct_n, a11, a01, aB2, bitA, nlt, nle, neq, dlT, dlF, deT, deF, dqT, dqF, nN, inb, nsb, ndv, nrm, if_true, if_false, ite_true, ite_false, true_and, and_true, and_self, and_false, false_and, or_true, true_or, or_false, false_or, or_self, reduceIte, eq_self, Nat.reduceAdd, Nat.reduceMul, Nat.reduceSub, Nat.reduceDiv, Nat.reduceMod, not_true_eq_false, not_false_eq_true, up_T, up_F, wr_T, wr_F, ngE, ngE', ngL, ngL', ngQ, ngQ']⟩) (fun s hV => by
      rw [hV]
      simp (disch := omega) only [e_Walk_measure_1, e_Walk_measure_3, lit, nad, nml, bd_s, ct_s, ct_n, a11, a01, aB2, bitA, nlt, nle, neq, dlT, dlF, deT, deF, dqT, dqF, nN, inb, nsb, ndv, nrm, if_true, if_false, ite_true, ite_false, true_and, and_true, and_self, and_false, false_and, or_true, true_or, or_false, false_or, or_self, reduceIte, eq_self, Nat.reduceAdd, Nat.reduceMul, Nat.reduceSub, Nat.reduceDiv, Nat.reduceMod, not_true_eq_false, not_false_eq_true, up_T, up_F, wr_T, wr_F, ngE, ngE', ngL, ngL', ngQ, ngQ']) 0 I (Nat.zero_le _) (wr_0 _ _ _ _ _).symm
  refine l1.symm ▸ ?_
  refine lpX (n := 10) (σ := mm_I × Bool × Option mm_V) (fun r s => Rn (d + 1) q_Walk_measure 4 [some (.inr (10, 0)), some (.inr (3, h)), some (.inl (nI to)), some (.inl (nI (b2 s.2.1))), some (.inl (nI r)), s.2.2] [] s.1) (fun r s => eqo [41] I s.1 ∧ ∃ t, TG s.1 t ∧ ((s.2.1 = true ∧ cV A x to r 0 false t) ∨ (s.2.1 = false ∧ ∀ c, c < 10 → t c = ds A x to c))) (fun q => ∃ I', q = some (none, (sh0, I')) ∧ eqo [41] I I' ∧ TG I' (ds A x to)) ?_ ?_ 0 (mm_up (wr I 41 0 0 10 (fun _ => nI 536870912)) 41 0 to (nI 0), true, none) (Nat.zero_le _) ?_
  · rintro r ⟨J, b, v⟩ hr ⟨hJ, t, hT, hV⟩
    dsimp only at hJ hT hV ⊢
    rcases hV with ⟨hb, hV⟩ | ⟨hb, hV⟩
    · right
      subst hb
      have hgo : Rn (d + 1) q_Walk_measure 4 [some (.inr (10, 0)), some (.inr (3, h)), some (.inl (nI to)), some (.inl (nI (b2 true))), some (.inl (nI r)), v] [] J = Rn (d + 1) q_Walk_measure 7 [some (.inr (10, 0)), some (.inr (3, h)), some (.inl (nI to)), some (.inl (nI (b2 false))), some (.inl (nI r)), some (.inl (nI 0))] [] J := by
        simp (disch := omega) only [e_Walk_measure_4, e_Walk_measure_5, e_Walk_measure_6, b2, lit, nad, nml, bd_s, ct_s, ct_n, a11, a01, aB2, bitA, nlt, nle, neq, dlT, dlF, deT, deF, dqT, dqF, nN, inb, nsb, ndv, nrm, if_true, if_false, ite_true, ite_false, true_and, and_true, and_self, and_false, false_and, or_true, true_or, or_false, false_or, or_self, reduceIte, eq_self, Nat.reduceAdd, Nat.reduceMul, Nat.reduceSub, Nat.reduceDiv, Nat.reduceMod, not_true_eq_false, not_false_eq_true, up_T, up_F, wr_T, wr_F, ngE, ngE', ngL, ngL', ngQ, ngQ', Bool.false_eq_true]
      rw [hgo]
      refine lpX (n := A 0 0 0) (σ := mm_I × Bool) (fun i s => Rn (d + 1) q_Walk_measure 7 [some (.inr (10, 0)), some (.inr (3, h)), some (.inl (nI to)), some (.inl (nI (b2 s.2))), some (.inl (nI r)), some (.inl (nI i))] [] s.1) (fun i s => eqo [41] I s.1 ∧ ∃ t, TG s.1 t ∧ cV A x to r i s.2 t) (fun q => ∃ s' : mm_I × Bool × Option mm_V, (eqo [41] I s'.1 ∧ ∃ t, TG s'.1 t ∧ ((s'.2.1 = true ∧ cV A x to (r + 1) 0 false t) ∨ (s'.2.1 = false ∧ ∀ c, c < 10 → t c = ds A x to c))) ∧ q = Rn (d + 1) q_Walk_measure 4 [some (.inr (10, 0)), some (.inr (3, h)), some (.inl (nI to)), some (.inl (nI (b2 s'.2.1))), some (.inl (nI (r + 1))), s'.2.2] [] s'.1) ?_ ?_ 0 (J, false) (Nat.zero_le _) ⟨hJ, t, hT, hV⟩
      · rintro i ⟨K, b⟩ hi ⟨hK, t, hT, hV⟩
        dsimp only at hK hT hV ⊢
        have h3 : K 3 h 1 = nI (A 0 0 0) := by rw [hK 3 (by decide)]; exact hC.1.1
        have hS : StC K (16 * h + i) (A 1 i) := StC_c (hC.2.2.1 i hi) (by rw [hK 8 (by decide)])
        have h40 : K 40 0 i = nI (wgt A x i) := by rw [hK 40 (by decide)]; exact hw i hi
        have hG := gE.2 i hi
        have hwb := wgt_b (x := x) gE hi
        right
        cases ho : op A x i with
        | false =>
          have hw0 : wgt A x i = 0 := by unfold wgt; rw [ho]; rfl
          refine ⟨(K, b), ⟨hK, t, hT, cV_shut hV ho⟩, ?_⟩
          dsimp only
          simp (disch := omega) only [e_Walk_measure_8, e_Walk_measure_12, e_Walk_measure_7 (x5 := nI i), h3, h40, hw0, lit, nad, nml, bd_s, ct_s, ct_n, a11, a01, aB2, bitA, nlt, nle, neq, dlT, dlF, deT, deF, dqT, dqF, nN, inb, nsb, ndv, nrm, if_true, if_false, ite_true, ite_false, true_and, and_true, and_self, and_false, false_and, or_true, true_or, or_false, false_or, or_self, reduceIte, eq_self, Nat.reduceAdd, Nat.reduceMul, Nat.reduceSub, Nat.reduceDiv, Nat.reduceMod, not_true_eq_false, not_false_eq_true, up_T, up_F, wr_T, wr_F, ngE, ngE', ngL, ngL', ngQ, ngQ']
        | true =>
          have hw1 : wgt A x i = wt A i := by unfold wgt; rw [ho]; rfl
          have hw2 : 0 < wt A i := by unfold wt; omega
          have hB := s_Walk_bringNearer d (16 * h + i) (wt A i) (A 1 i) t K hS hG.1 hG.2.1 hT (fun c hc => (hV.1 c hc).2) (by omega)
          have hN := cV_open gE hV hi ho
          by_cases e1 : t (A 1 i 1) + wt A i < t (A 1 i 0)
          · rw [if_pos e1] at hB
            have x1 : rlT A i t = uN t (A 1 i 0) (t (A 1 i 1) + wt A i) := by unfold rlT; rw [if_pos e1]
            have x2 : rlB A i t = true := by unfold rlB; simp [e1]
            rw [x1, x2, Bool.or_true] at hN
            refine ⟨(mm_up K 41 0 (A 1 i 0) (nI (t (A 1 i 1) + wt A i)), true), ⟨eqo_up hK (by decide), _, TG_up hT, hN⟩, ?_⟩
            dsimp only
            simp (disch := omega) only [e_Walk_measure_8, e_Walk_measure_9, e_Walk_measure_10, e_Walk_measure_11, e_Walk_measure_12, e_Walk_measure_7 (x5 := nI i), h3, h40, hw1, hB, lit, nad, nml, bd_s, ct_s, ct_n, a11, a01, aB2, bitA, nlt, nle, neq, dlT, dlF, deT, deF, dqT, dqF, nN, inb, nsb, ndv, nrm, if_true, if_false, ite_true, ite_false, true_and, and_true, and_self, and_false, false_and, or_true, true_or, or_false, false_or, or_self, reduceIte, eq_self, Nat.reduceAdd, Nat.reduceMul, Nat.reduceSub, Nat.reduceDiv, Nat.reduceMod, not_true_eq_false, not_false_eq_true, up_T, up_F, wr_T, wr_F, ngE, ngE', ngL, ngL', ngQ, ngQ']
            rfl
          · rw [if_neg e1] at hB
            by_cases e2 : t (A 1 i 0) + wt A i < t (A 1 i 1)
            · rw [if_pos e2] at hB
              have x1 : rlT A i t = uN t (A 1 i 1) (t (A 1 i 0) + wt A i) := by unfold rlT; rw [if_neg e1, if_pos e2]
              have x2 : rlB A i t = true := by unfold rlB; simp [e2]
              rw [x1, x2, Bool.or_true] at hN
              refine ⟨(mm_up K 41 0 (A 1 i 1) (nI (t (A 1 i 0) + wt A i)), true), ⟨eqo_up hK (by decide), _, TG_up hT, hN⟩, ?_⟩
              dsimp only
              simp (disch := omega) only [e_Walk_measure_8, e_Walk_measure_9, e_Walk_measure_10, e_Walk_measure_11, e_Walk_measure_12, e_Walk_measure_7 (x5 := nI i), h3, h40, hw1, hB, lit, nad, nml, bd_s, ct_s, ct_n, a11, a01, aB2, bitA, nlt, nle, neq, dlT, dlF, deT, deF, dqT, dqF, nN, inb, nsb, ndv, nrm, if_true, if_false, ite_true, ite_false, true_and, and_true, and_self, and_false, false_and, or_true, true_or, or_false, false_or, or_self, reduceIte, eq_self, Nat.reduceAdd, Nat.reduceMul, Nat.reduceSub, Nat.reduceDiv, Nat.reduceMod, not_true_eq_false, not_false_eq_true, up_T, up_F, wr_T, wr_F, ngE, ngE', ngL, ngL', ngQ, ngQ']
              rfl
            · rw [if_neg e2] at hB
              have x1 : rlT A i t = t := by unfold rlT; rw [if_neg e1, if_neg e2]
              have x2 : rlB A i t = false := by unfold rlB; simp [e1, e2]
              rw [x1, x2, Bool.or_false] at hN
              refine ⟨(K, b), ⟨hK, _, hT, hN⟩, ?_⟩
              dsimp only
              simp (disch := omega) only [e_Walk_measure_8, e_Walk_measure_9, e_Walk_measure_10, e_Walk_measure_11, e_Walk_measure_12, e_Walk_measure_7 (x5 := nI i), h3, h40, hw1, hB, lit, nad, nml, bd_s, ct_s, ct_n, a11, a01, aB2, bitA, nlt, nle, neq, dlT, dlF, deT, deF, dqT, dqF, nN, inb, nsb, ndv, nrm, if_true, if_false, ite_true, ite_false, true_and, and_true, and_self, and_false, false_and, or_true, true_or, or_false, false_or, or_self, reduceIte, eq_self, Nat.reduceAdd, Nat.reduceMul, Nat.reduceSub, Nat.reduceDiv, Nat.reduceMod, not_true_eq_false, not_false_eq_true, up_T, up_F, wr_T, wr_F, ngE, ngE', ngL, ngL', ngQ, ngQ']
      · rintro ⟨K, b⟩ ⟨hK, t, hT, hV⟩
        dsimp only at hK hT hV ⊢
        have h3 : K 3 h 1 = nI (A 0 0 0) := by rw [hK 3 (by decide)]; exact hC.1.1
        refine ⟨(K, b, some (.inl (nI (A 0 0 0)))), ⟨hK, t, hT, ?_⟩, ?_⟩
        · cases b with
          | true => exact Or.inl ⟨rfl, cV_next gE hV⟩
          | false => exact Or.inr ⟨rfl, cV_fix gE ht hV⟩
        · dsimp only
          simp (disch := omega) only [e_Walk_measure_7, e_Walk_measure_13, h3, lit, nad, nml, bd_s, ct_s, ct_n, a11, a01, aB2, bitA, nlt, nle, neq, dlT, dlF, deT, deF, dqT, dqF, nN, inb, nsb, ndv, nrm, if_true, if_false, ite_true, ite_false, true_and, and_true, and_self, and_false, false_and, or_true, true_or, or_false, false_or, or_self, reduceIte, eq_self, Nat.reduceAdd, Nat.reduceMul, Nat.reduceSub, Nat.reduceDiv, Nat.reduceMod, not_true_eq_false, not_false_eq_true, up_T, up_F, wr_T, wr_F, ngE, ngE', ngL, ngL', ngQ, ngQ']
    · left
      subst hb
      refine ⟨J, ?_, hJ, fun c hc => by rw [hT c hc, hV c hc]⟩
      simp (disch := omega) only [e_Walk_measure_4, e_Walk_measure_5, e_Walk_measure_14, b2, lit, nad, nml, bd_s, ct_s, ct_n, a11, a01, aB2, bitA, nlt, nle, neq, dlT, dlF, deT, deF, dqT, dqF, nN, inb, nsb, ndv, nrm, if_true, if_false, ite_true, ite_false, true_and, and_true, and_self, and_false, false_and, or_true, true_or, or_false, false_or, or_self, reduceIte, eq_self, Nat.reduceAdd, Nat.reduceMul, Nat.reduceSub, Nat.reduceDiv, Nat.reduceMod, not_true_eq_false, not_false_eq_true, up_T, up_F, wr_T, wr_F, ngE, ngE', ngL, ngL', ngQ, ngQ', Bool.false_eq_true]
  · rintro ⟨J, b, v⟩ ⟨hJ, t, hT, hV⟩
    dsimp only at hJ hT hV ⊢
    refine ⟨J, ?_, hJ, fun c hc => ?_⟩
    · simp (disch := omega) only [e_Walk_measure_4, e_Walk_measure_14, lit, nad, nml, bd_s, ct_s, ct_n, a11, a01, aB2, bitA, nlt, nle, neq, dlT, dlF, deT, deF, dqT, dqF, nN, inb, nsb, ndv, nrm, if_true, if_false, ite_true, ite_false, true_and, and_true, and_self, and_false, false_and, or_true, true_or, or_false, false_or, or_self, reduceIte, eq_self, Nat.reduceAdd, Nat.reduceMul, Nat.reduceSub, Nat.reduceDiv, Nat.reduceMod, not_true_eq_false, not_false_eq_true, up_T, up_F, wr_T, wr_F, ngE, ngE', ngL, ngL', ngQ, ngQ']
    · rw [hT c hc]
      rcases hV with ⟨hb, hV⟩ | ⟨hb, hV⟩
      · rw [cV_10 hV c hc]
      · rw [hV c hc]
  · refine ⟨eqo_up (eqo_wr (eqo_rf _ _) (by decide)) (by decide), uN (fun _ => 536870912) to 0, ?_, Or.inl ⟨rfl, cV_0 gE ht⟩⟩
    exact TG_up (fun c hc => by rw [wr_T (by omega)])
theorem s_Walk_otherEnd (d r a : Nat) (f : Nat → Nat) (I : mm_I) (hS : StC I r f) (f0 : f 0 < 10) (ha : a < 10) : Sn (d + 1) q_Walk_otherEnd [.inr (8, r), .inl (nI a)] I = some (some (.inl (nI (if f 0 = a then f 1 else f 0))), (sh0, I)) := by
  obtain ⟨h0, h1, -⟩ := hS
  by_cases e : f 0 = a <;> simp (disch := omega) only [n_Walk_otherEnd, e_Walk_otherEnd_0, e_Walk_otherEnd_1, e_Walk_otherEnd_2, e_Walk_otherEnd_3, h0, h1, lit, nad, nml, bd_s, ct_s, ct_n, a11, a01, aB2, bitA, nlt, nle, neq, dlT, dlF, deT, deF, dqT, dqF, nN, inb, nsb, ndv, nrm, if_true, if_false, ite_true, ite_false, true_and, and_true, and_self, and_false, false_and, or_true, true_or, or_false, false_or, or_self, reduceIte, eq_self, Nat.reduceAdd, Nat.reduceMul, Nat.reduceSub, Nat.reduceDiv, Nat.reduceMod, not_true_eq_false, not_false_eq_true, up_T, up_F, wr_T, wr_F, ngE, ngE', ngL, ngL', ngQ, ngQ']
theorem s_Stretch_meets (d r a : Nat) (f : Nat → Nat) (I : mm_I) (hS : StC I r f) (f0 : f 0 < 10) (f1 : f 1 < 10) (ha : a < 10) : Sn (d + 1) q_Stretch_meets [.inr (8, r), .inl (nI a)] I = some (some (.inl (nI (if f 0 = a ∨ f 1 = a then 1 else 0))), (sh0, I)) := by
  obtain ⟨h0, h1, -⟩ := hS
  by_cases e : f 0 = a
  · simp (disch := omega) only [n_Stretch_meets, e_Stretch_meets_0, e_Stretch_meets_1, e_Stretch_meets_2, e_Stretch_meets_3, e_Stretch_meets_4, h0, h1, lit, nad, nml, bd_s, ct_s, ct_n, a11, a01, aB2, bitA, nlt, nle, neq, dlT, dlF, deT, deF, dqT, dqF, nN, inb, nsb, ndv, nrm, if_true, if_false, ite_true, ite_false, true_and, and_true, and_self, and_false, false_and, or_true, true_or, or_false, false_or, or_self, reduceIte, eq_self, Nat.reduceAdd, Nat.reduceMul, Nat.reduceSub, Nat.reduceDiv, Nat.reduceMod, not_true_eq_false, not_false_eq_true, up_T, up_F, wr_T, wr_F, ngE, ngE', ngL, ngL', ngQ, ngQ']
  · by_cases e2 : f 1 = a <;> simp (disch := omega) only [n_Stretch_meets, e_Stretch_meets_0, e_Stretch_meets_1, e_Stretch_meets_2, e_Stretch_meets_3, e_Stretch_meets_4, h0, h1, lit, nad, nml, bd_s, ct_s, ct_n, a11, a01, aB2, bitA, nlt, nle, neq, dlT, dlF, deT, deF, dqT, dqF, nN, inb, nsb, ndv, nrm, if_true, if_false, ite_true, ite_false, true_and, and_true, and_self, and_false, false_and, or_true, true_or, or_false, false_or, or_self, reduceIte, eq_self, Nat.reduceAdd, Nat.reduceMul, Nat.reduceSub, Nat.reduceDiv, Nat.reduceMod, not_true_eq_false, not_false_eq_true, up_T, up_F, wr_T, wr_F, ngE, ngE', ngL, ngL', ngQ, ngQ']
theorem s_Walk_firstOnward (d h x to a : Nat) (A : mm_A) (I : mm_I) (hC : RepC h A I) (g : Good A) (ha : a < 10) (hr : rch A x to a) (hn : a ≠ to) (hw : ∀ p, p < A 0 0 0 → I 40 0 p = nI (wgt A x p)) (hT : TG I (ds A x to)) : Sn (d + 2) q_Walk_firstOnward [.inr (10, 0), .inr (3, h), .inl (nI a)] I = some (some (.inl (nI (nx A x to a))), (sh0, I)) := by
  have hN := g.1.1
  have gE := GE_of g
  obtain ⟨n1, n2, n3, -⟩ := nx_of gE ha hr hn
  obtain ⟨-, -, -, n4⟩ := fs_some n1
  rw [n_Walk_firstOnward, e_Walk_firstOnward_0]
  refine lpX (n := nx A x to a) (σ := Option mm_V) (fun i v => Rn (d + 1) q_Walk_firstOnward 1 [some (.inr (10, 0)), some (.inr (3, h)), some (.inl (nI a)), some (.inl (nI i)), v] [] I) (fun _ _ => True) (fun r => r = _) ?_ ?_ 0 none (Nat.zero_le _) trivial
  · intro i v hi _
    have hip : i < A 0 0 0 := by omega
    have hS := hC.2.2.1 i hip
    have hG := gE.2 i hip
    have hwb := wgt_b (x := x) gE hip
    have hm := s_Stretch_meets d (16 * h + i) a (A 1 i) I hS hG.1 hG.2.1 ha
    have hoe := s_Walk_otherEnd d (16 * h + i) a (A 1 i) I hS hG.1 ha
    have h3 := hC.1.1
    have h40 := hw i hip
    have hx := n4 i (Nat.zero_le _) hi
    right
    refine ⟨some (.inr (8, 16 * h + i)), trivial, ?_⟩
    cases ho : op A x i with
    | false =>
      have hw0 : wgt A x i = 0 := by unfold wgt; rw [ho]; rfl
      simp (disch := omega) only [e_Walk_firstOnward_2, e_Walk_firstOnward_8, e_Walk_firstOnward_1 (x3 := nI i), h3, h40, hw0, lit, nad, nml, bd_s, ct_s, ct_n, a11, a01, aB2, bitA, nlt, nle, neq, dlT, dlF, deT, deF, dqT, dqF, nN, inb, nsb, ndv, nrm, if_true, if_false, ite_true, ite_false, true_and, and_true, and_self, and_false, false_and, or_true, true_or, or_false, false_or, or_self, reduceIte, eq_self, Nat.reduceAdd, Nat.reduceMul, Nat.reduceSub, Nat.reduceDiv, Nat.reduceMod, not_true_eq_false, not_false_eq_true, up_T, up_F, wr_T, wr_F, ngE, ngE', ngL, ngL', ngQ, ngQ']
    | true =>
      have hw1 : wgt A x i = wt A i := by unfold wgt; rw [ho]; rfl
      have hw2 : 0 < wt A i := by unfold wt; omega
      by_cases e1 : A 1 i 0 = a ∨ A 1 i 1 = a
      · have ho2 : (if A 1 i 0 = a then A 1 i 1 else A 1 i 0) < 10 := by split <;> omega
        have e2 : ds A x to (if A 1 i 0 = a then A 1 i 1 else A 1 i 0) + wt A i ≠ ds A x to a := by
          intro q
          unfold nxB at hx
          rw [ho, q] at hx
          simp at hx
          omega
        have d1 := (ds_F (x := x) (to := to) gE ho2).1
        have d2 := (ds_F (x := x) (to := to) gE ha).1
        have t1 := hT _ ho2
        have t2 := hT _ ha
        rw [if_pos e1] at hm
        generalize (if A 1 i 0 = a then A 1 i 1 else A 1 i 0) = o at *
        simp (disch := omega) only [e_Walk_firstOnward_2, e_Walk_firstOnward_3, e_Walk_firstOnward_4, e_Walk_firstOnward_5, e_Walk_firstOnward_6, e_Walk_firstOnward_8, e_Walk_firstOnward_1 (x3 := nI i), h3, h40, hw1, hm, hoe, t1, t2, lit, nad, nml, bd_s, ct_s, ct_n, a11, a01, aB2, bitA, nlt, nle, neq, dlT, dlF, deT, deF, dqT, dqF, nN, inb, nsb, ndv, nrm, if_true, if_false, ite_true, ite_false, true_and, and_true, and_self, and_false, false_and, or_true, true_or, or_false, false_or, or_self, reduceIte, eq_self, Nat.reduceAdd, Nat.reduceMul, Nat.reduceSub, Nat.reduceDiv, Nat.reduceMod, not_true_eq_false, not_false_eq_true, up_T, up_F, wr_T, wr_F, ngE, ngE', ngL, ngL', ngQ, ngQ']
      · rw [if_neg e1] at hm
        simp (disch := omega) only [e_Walk_firstOnward_2, e_Walk_firstOnward_3, e_Walk_firstOnward_4, e_Walk_firstOnward_8, e_Walk_firstOnward_1 (x3 := nI i), h3, h40, hw1, hm, lit, nad, nml, bd_s, ct_s, ct_n, a11, a01, aB2, bitA, nlt, nle, neq, dlT, dlF, deT, deF, dqT, dqF, nN, inb, nsb, ndv, nrm, if_true, if_false, ite_true, ite_false, true_and, and_true, and_self, and_false, false_and, or_true, true_or, or_false, false_or, or_self, reduceIte, eq_self, Nat.reduceAdd, Nat.reduceMul, Nat.reduceSub, Nat.reduceDiv, Nat.reduceMod, not_true_eq_false, not_false_eq_true, up_T, up_F, wr_T, wr_F, ngE, ngE', ngL, ngL', ngQ, ngQ']
  · intro v _
    have hS := hC.2.2.1 _ n2
    have hG := gE.2 _ n2
    have hwb := wgt_b (x := x) gE n2
    have hm := s_Stretch_meets d (16 * h + nx A x to a) a (A 1 (nx A x to a)) I hS hG.1 hG.2.1 ha
    have hoe := s_Walk_otherEnd d (16 * h + nx A x to a) a (A 1 (nx A x to a)) I hS hG.1 ha
    have h3 := hC.1.1
    have h40 := hw _ n2
    unfold nxB at n3
    simp only [Bool.and_eq_true, Bool.or_eq_true, beq_iff_eq] at n3
    obtain ⟨⟨ho, e1⟩, e2⟩ := n3
    have hw1 : wgt A x (nx A x to a) = wt A (nx A x to a) := by unfold wgt; rw [ho]; rfl
    have hw2 : 0 < wt A (nx A x to a) := by unfold wt; omega
    have ho2 : (if A 1 (nx A x to a) 0 = a then A 1 (nx A x to a) 1 else A 1 (nx A x to a) 0) < 10 := by split <;> omega
    have d1 := (ds_F (x := x) (to := to) gE ho2).1
    have d2 := (ds_F (x := x) (to := to) gE ha).1
    have t1 := hT _ ho2
    have t2 := hT _ ha
    rw [if_pos e1] at hm
    generalize (if A 1 (nx A x to a) 0 = a then A 1 (nx A x to a) 1 else A 1 (nx A x to a) 0) = o at *
    generalize nx A x to a = p at *
    simp (disch := omega) only [e_Walk_firstOnward_1, e_Walk_firstOnward_2, e_Walk_firstOnward_3, e_Walk_firstOnward_4, e_Walk_firstOnward_5, e_Walk_firstOnward_6, e_Walk_firstOnward_7, h3, h40, hw1, hm, hoe, t1, t2, lit, nad, nml, bd_s, ct_s, ct_n, a11, a01, aB2, bitA, nlt, nle, neq, dlT, dlF, deT, deF, dqT, dqF, nN, inb, nsb, ndv, nrm, if_true, if_false, ite_true, ite_false, true_and, and_true, and_self, and_false, false_and, or_true, true_or, or_false, false_or, or_self, reduceIte, eq_self, Nat.reduceAdd, Nat.reduceMul, Nat.reduceSub, Nat.reduceDiv, Nat.reduceMod, not_true_eq_false, not_false_eq_true, up_T, up_F, wr_T, wr_F, ngE, ngE', ngL, ngL', ngQ, ngQ']
theorem s_Walk_find (d h x fr to : Nat) (A : mm_A) (I : mm_I) (hC : RepC h A I) (g : Good A) (hf : fr < 10) (ht : to < 10) (hw : ∀ p, p < A 0 0 0 → I 40 0 p = nI (wgt A x p)) : ∃ I', Sn (d + 3) q_Walk_find [.inr (10, 0), .inr (3, h), .inl (nI fr), .inl (nI to)] I = some (some (.inl (nI (if ds A x to fr < 536870912 then 1 else 0))), (sh0, I')) ∧ eqo [10, 41, 42] I I' ∧ (ds A x to fr < 536870912 → I' 10 0 4 = nI (dM A x to fr) ∧ I' 10 0 5 = nI (dE A x to fr) ∧ ∀ k, k < dM A x to fr → I' 42 0 k = nI (wp A x to fr k)) := by
  have hN := g.1.1
  have gE := GE_of g
  have e0 : eqo [10] I (mm_up (mm_up I 10 0 4 (nI 0)) 10 0 5 (nI 0)) := eqo_up (eqo_up (eqo_rf _ _) (by decide)) (by decide)
  obtain ⟨I1, m1, m2, m3⟩ := s_Walk_measure d h x to A _ (RepC_o hC g e0 (by decide)) g ht (fun p hp => by rw [e0 40 (by decide)]; exact hw p hp)
  have e1 : eqo [10, 41, 42] I I1 := eqo_tr (eqo_mono e0 (by decide)) (eqo_mono m2 (by decide))
  have hdf := m3 fr hf
  have hdb := (ds_F (x := x) (to := to) gE hf).1
  by_cases hr : ds A x to fr < 536870912
  · have hrc := (ds_F (x := x) (to := to) gE hf).2.mp hr
    have h9 := dM_9 gE hf hrc
    have k3 : Sn (d + 3) q_Walk_find [.inr (10, 0), .inr (3, h), .inl (nI fr), .inl (nI to)] I = Rn (d + 2) q_Walk_find 4 [some (.inr (10, 0)), some (.inr (3, h)), some (.inl (nI fr)), some (.inl (nI to)), some (.inl (nI fr)), some (.inl (nI 0)), none] [] (mm_up I1 10 0 5 (nI (dE A x to fr))) := by
      simp (disch := omega) only [n_Walk_find, e_Walk_find_0, e_Walk_find_1, e_Walk_find_3, lit, m1, hdf, lit, nad, nml, bd_s, ct_s, ct_n, a11, a01, aB2, bitA, nlt, nle, neq, dlT, dlF, deT, deF, dqT, dqF, nN, inb, nsb, ndv, nrm, if_true, if_false, ite_true, ite_false, true_and, and_true, and_self, and_false, false_and, or_true, true_or, or_false, false_or, or_self, reduceIte, eq_self, Nat.reduceAdd, Nat.reduceMul, Nat.reduceSub, Nat.reduceDiv, Nat.reduceMod, not_true_eq_false, not_false_eq_true, up_T, up_F, wr_T, wr_F, ngE, ngE', ngL, ngL', ngQ, ngQ']
      rfl
    rw [k3, if_pos hr]
    have hC1 : RepC h A I1 := RepC_o hC g e1 (by decide)
    have h104 : I1 10 0 4 = nI 0 := by rw [m2 10 (by decide), up_F (by omega), up_s]
    refine lpX (n := dM A x to fr) (σ := mm_I × Option mm_V) (fun k s => Rn (d + 2) q_Walk_find 4 [some (.inr (10, 0)), some (.inr (3, h)), some (.inl (nI fr)), some (.inl (nI to)), some (.inl (nI (wa A x to fr k))), some (.inl (nI k)), s.2] [] s.1) (fun k s => eqo [10, 42] I1 s.1 ∧ s.1 10 0 4 = nI k ∧ s.1 10 0 5 = nI (dE A x to fr) ∧ ∀ j, j < k → s.1 42 0 j = nI (wp A x to fr j)) (fun q => ∃ I', q = some (some (.inl (nI 1)), (sh0, I')) ∧ eqo [10, 41, 42] I I' ∧ (ds A x to fr < 536870912 → I' 10 0 4 = nI (dM A x to fr) ∧ I' 10 0 5 = nI (dE A x to fr) ∧ ∀ k, k < dM A x to fr → I' 42 0 k = nI (wp A x to fr k))) ?_ ?_ 0 (mm_up I1 10 0 5 (nI (dE A x to fr)), none) (Nat.zero_le _) ?_
    rotate_left
    rotate_left
    · dsimp only
      exact ⟨eqo_up (eqo_rf _ _) (by decide), by rw [up_F (by omega)]; exact h104, up_s I1 10 0 5 _, fun j hj => by omega⟩
    · rintro k ⟨J, v⟩ hk ⟨j1, j2, j3, j4⟩
      dsimp only at j1 j2 j3 j4 ⊢
      obtain ⟨w1, w2, w3, w4⟩ := wa_of gE hf hrc k (by omega)
      have w5 := w4 hk
      obtain ⟨-, n2, -, n4, -⟩ := nx_of gE w1 w2 w5
      have hCJ : RepC h A J := RepC_o hC1 g j1 (by decide)
      have fo := s_Walk_firstOnward d h x to (wa A x to fr k) A J hCJ g w1 w2 w5 (fun p hp => by rw [j1 40 (by decide), m2 40 (by decide), e0 40 (by decide)]; exact hw p hp) (fun c hc => by rw [j1 41 (by decide)]; exact m3 c hc)
      have hG := gE.2 _ n2
      have e2 : eqo [10, 42] J (mm_up (mm_up J 42 0 k (nI (wp A x to fr k))) 10 0 4 (nI (k + 1))) := eqo_up (eqo_up (eqo_rf _ _) (by decide)) (by decide)
      have oe := s_Walk_otherEnd (d + 1) (16 * h + wp A x to fr k) (wa A x to fr k) (A 1 (wp A x to fr k)) (mm_up (mm_up J 42 0 k (nI (wp A x to fr k))) 10 0 4 (nI (k + 1))) (StC_c (hCJ.2.2.1 _ n2) (by rw [e2 8 (by decide)])) hG.1 w1
      refine Or.inr ⟨(mm_up (mm_up J 42 0 k (nI (wp A x to fr k))) 10 0 4 (nI (k + 1)), some (.inl (nI (wp A x to fr k)))), ⟨eqo_tr j1 e2, by dsimp only; rw [up_s], by dsimp only; rw [up_F (by omega), up_F (by omega)]; exact j3, fun j hj => ?_⟩, ?_⟩
      · dsimp only
        rw [up_F (by omega)]
        rcases Nat.lt_or_ge j k with q | q
        · rw [up_F (by omega)]; exact j4 j q
        · rw [show j = k by omega, up_s]
      · dsimp only
        have hwk : wa A x to fr (k + 1) = (if A 1 (wp A x to fr k) 0 = wa A x to fr k then A 1 (wp A x to fr k) 1 else A 1 (wp A x to fr k) 0) := rfl
        rw [hwk]
        change nx A x to (wa A x to fr k) < A 0 0 0 at n2
        have n2' : wp A x to fr k < A 0 0 0 := n2
        change Sn (d + 2) q_Walk_firstOnward _ J = some (some (.inl (nI (wp A x to fr k))), (sh0, J)) at fo
        generalize wp A x to fr k = p at *
        generalize wa A x to fr k = a at *
        simp (disch := omega) only [e_Walk_find_5, e_Walk_find_6, e_Walk_find_7, e_Walk_find_9, e_Walk_find_10, e_Walk_find_4 (x5 := nI k), fo, oe, lit, nad, nml, bd_s, ct_s, ct_n, a11, a01, aB2, bitA, nlt, nle, neq, dlT, dlF, deT, deF, dqT, dqF, nN, inb, nsb, ndv, nrm, if_true, if_false, ite_true, ite_false, true_and, and_true, and_self, and_false, false_and, or_true, true_or, or_false, false_or, or_self, reduceIte, eq_self, Nat.reduceAdd, Nat.reduceMul, Nat.reduceSub, Nat.reduceDiv, Nat.reduceMod, not_true_eq_false, not_false_eq_true, up_T, up_F, wr_T, wr_F, ngE, ngE', ngL, ngL', ngQ, ngQ']
    · rintro ⟨J, v⟩ ⟨j1, j2, j3, j4⟩
      dsimp only at j1 j2 j3 j4 ⊢
      refine ⟨J, ?_, eqo_tr e1 (eqo_mono j1 (by decide)), fun _ => ⟨j2, j3, j4⟩⟩
      rw [wa_end gE hf hrc]
      simp (disch := omega) only [e_Walk_find_4, e_Walk_find_5, e_Walk_find_11, e_Walk_find_12, e_Walk_find_14, lit, nad, nml, bd_s, ct_s, ct_n, a11, a01, aB2, bitA, nlt, nle, neq, dlT, dlF, deT, deF, dqT, dqF, nN, inb, nsb, ndv, nrm, if_true, if_false, ite_true, ite_false, true_and, and_true, and_self, and_false, false_and, or_true, true_or, or_false, false_or, or_self, reduceIte, eq_self, Nat.reduceAdd, Nat.reduceMul, Nat.reduceSub, Nat.reduceDiv, Nat.reduceMod, not_true_eq_false, not_false_eq_true, up_T, up_F, wr_T, wr_F, ngE, ngE', ngL, ngL', ngQ, ngQ']
  · refine ⟨I1, ?_, e1, fun q => absurd q hr⟩
    simp (disch := omega) only [n_Walk_find, e_Walk_find_0, e_Walk_find_1, e_Walk_find_2, lit, m1, hdf, lit, nad, nml, bd_s, ct_s, ct_n, a11, a01, aB2, bitA, nlt, nle, neq, dlT, dlF, deT, deF, dqT, dqF, nN, inb, nsb, ndv, nrm, if_true, if_false, ite_true, ite_false, true_and, and_true, and_self, and_false, false_and, or_true, true_or, or_false, false_or, or_self, reduceIte, eq_self, Nat.reduceAdd, Nat.reduceMul, Nat.reduceSub, Nat.reduceDiv, Nat.reduceMod, not_true_eq_false, not_false_eq_true, up_T, up_F, wr_T, wr_F, ngE, ngE', ngL, ngL', ngQ, ngQ']
noncomputable def pb (A : mm_A) (x to fr w : Nat) (b : Nat → Nat) : Nat → Nat → Nat
  | 0 => b
  | k + 1 => uN (pb A x to fr w b k) (wp A x to fr k) (pb A x to fr w b k (wp A x to fr k) + w)
/-- the boots of t trips -/
noncomputable def bt (A : mm_A) (x : Nat) : Nat → Nat → Nat
  | 0 => fun _ => 0
  | t + 1 => if ds A x (A 4 t 1) (A 4 t 0) < 536870912 then pb A x (A 4 t 1) (A 4 t 0) (A 4 t 2) (bt A x t) (dM A x (A 4 t 1) (A 4 t 0)) else bt A x t
noncomputable def bo (A : mm_A) (x : Nat) : Nat → Nat := bt A x (A 0 0 1)
theorem pb_b {A : mm_A} {x to fr w : Nat} {b : Nat → Nat} (k p : Nat) : pb A x to fr w b k p ≤ b p + w * k := by
  induction k generalizing p with
  | zero => exact Nat.le_add_right _ _
  | succ k ih =>
    have := ih p
    rw [pb, Nat.mul_succ]
    by_cases e : p = wp A x to fr k
    · rw [← e, uN_s]; omega
    · rw [uN_n e]; omega
theorem pb_0 {A : mm_A} {x to fr : Nat} {b : Nat → Nat} (k : Nat) : pb A x to fr 0 b k = b := by
  induction k with
  | zero => rfl
  | succ k ih =>
    rw [pb, ih]
    funext p
    by_cases e : p = wp A x to fr k
    · rw [e, uN_s, Nat.add_zero]
    · rw [uN_n e]
theorem trG {A : mm_A} (g : Good A) {t : Nat} (h : t < A 0 0 1) : A 4 t 0 ≤ 9 ∧ A 4 t 1 ≤ 9 ∧ A 4 t 0 ≠ A 4 t 1 ∧ A 4 t 2 ≤ 9999 := g.2.2.2.2.2.1 t h
theorem bt_b {A : mm_A} {x : Nat} (g : Good A) (p : Nat) : ∀ t, t ≤ A 0 0 1 → bt A x t p ≤ 89991 * t := by
  intro t
  induction t with
  | zero => intro _; exact Nat.zero_le _
  | succ t ih =>
    intro h
    have i1 := ih (by omega)
    obtain ⟨g0, g1, g2, g3⟩ := trG g (by omega : t < A 0 0 1)
    rw [bt]
    split
    · rename_i hq
      have h9 := dM_9 (GE_of g) (by omega) ((ds_F (x := x) (to := A 4 t 1) (GE_of g) (by omega)).2.mp hq)
      have h2 := pb_b (A := A) (x := x) (to := A 4 t 1) (fr := A 4 t 0) (w := A 4 t 2) (b := bt A x t) (dM A x (A 4 t 1) (A 4 t 0)) p
      have h3 : A 4 t 2 * dM A x (A 4 t 1) (A 4 t 0) ≤ 9999 * 9 := Nat.mul_le_mul g3 h9
      omega
    · omega
theorem bo_b {A : mm_A} {x : Nat} (g : Good A) (p : Nat) : bo A x p ≤ 1079892 := by
  have := bt_b (x := x) g p _ (Nat.le_refl (A 0 0 1))
  have h2 : A 0 0 1 ≤ 12 := g.2.1 0 (by decide)
  unfold bo
  omega
theorem s_Walk_tread (d h x : Nat) (z : Int32) (A : mm_A) (I : mm_I) (hC : RepC h A I) (F : Fix I) (hh : h < 3) (g : Good A) (hz : ∀ p, p < 16 → (nI p = z ↔ p = x)) : ∃ I', Sn (d + 4) q_Walk_tread [.inr (10, 0), .inr (3, h), .inl z] I = some (none, (sh0, I')) ∧ eqo [10, 40, 41, 42, 43] I I' ∧ ∀ p, p < 16 → I' 43 0 p = nI (bo A x p) := by
  have hN := g.1.1
  have gE := GE_of g
  have hT12 : A 0 0 1 ≤ 12 := g.2.1 0 (by decide)
  have hwe := s_Walk_weigh (d + 1) h x z A I hC g hz
  have k0 : Sn (d + 4) q_Walk_tread [.inr (10, 0), .inr (3, h), .inl z] I = Rn (d + 3) q_Walk_tread 5 [some (.inr (10, 0)), some (.inr (3, h)), some (.inl z), some (.inl (nI 0)), none, none] [] (wr (wr I 40 0 0 (A 0 0 0) (fun p => nI (wgt A x p))) 43 0 0 16 (fun _ => nI 0)) := by
    simp only [n_Walk_tread, e_Walk_tread_0, hwe, bd_s, ct_n, e_Walk_tread_1]
    refine lpX (n := 16) (σ := mm_I) (fun i s => Rn (d + 3) q_Walk_tread 2 [some (.inr (10, 0)), some (.inr (3, h)), some (.inl z), some (.inl (nI i)), none, none] [] s) (fun i s => s = wr (wr I 40 0 0 (A 0 0 0) (fun p => nI (wgt A x p))) 43 0 0 i (fun _ => nI 0)) (fun r => r = _) (fun i s hi hV => Or.inr ⟨mm_up s 43 0 i (nI 0), by
      rw [hV]
      have := wr_s (wr I 40 0 0 (A 0 0 0) (fun p => nI (wgt A x p))) 43 0 0 i (fun _ => nI 0)
      rw [Nat.zero_add] at this
      exact this, by simp (disch := omega) only [e_Walk_tread_3, e_Walk_tread_2 (x3 := nI i), lit, nad, nml, bd_s, ct_s, ct_n, a11, a01, aB2, bitA, nlt, nle, neq, dlT, dlF, deT, deF, dqT, dqF, nN, inb, nsb, ndv, nrm, if_true, if_false, ite_true, ite_false, true_and, and_true, and_self, and_false, false_and, or_true, true_or, or_false, false_or, or_self, reduceIte, eq_self, Nat.reduceAdd, Nat.reduceMul, Nat.reduceSub, Nat.reduceDiv, Nat.reduceMod, not_true_eq_false, not_false_eq_true, up_T, up_F, wr_T, wr_F, ngE, ngE', ngL, ngL', ngQ, ngQ']⟩) (fun s hV => by
        rw [hV]
        simp (disch := omega) only [e_Walk_tread_2, e_Walk_tread_4, lit, nad, nml, bd_s, ct_s, ct_n, a11, a01, aB2, bitA, nlt, nle, neq, dlT, dlF, deT, deF, dqT, dqF, nN, inb, nsb, ndv, nrm, if_true, if_false, ite_true, ite_false, true_and, and_true, and_self, and_false, false_and, or_true, true_or, or_false, false_or, or_self, reduceIte, eq_self, Nat.reduceAdd, Nat.reduceMul, Nat.reduceSub, Nat.reduceDiv, Nat.reduceMod, not_true_eq_false, not_false_eq_true, up_T, up_F, wr_T, wr_F, ngE, ngE', ngL, ngL', ngQ, ngQ']) 0 _ (Nat.zero_le _) (wr_0 _ _ _ _ _).symm
  rw [k0]
  refine lpX (n := A 0 0 1) (σ := mm_I × Option mm_V × Option mm_V) (fun t s => Rn (d + 3) q_Walk_tread 5 [some (.inr (10, 0)), some (.inr (3, h)), some (.inl z), some (.inl (nI t)), s.2.1, s.2.2] [] s.1) (fun t s => eqo [10, 40, 41, 42, 43] I s.1 ∧ (∀ p, p < A 0 0 0 → s.1 40 0 p = nI (wgt A x p)) ∧ ∀ p, p < 16 → s.1 43 0 p = nI (bt A x t p)) (fun q => ∃ I', q = some (none, (sh0, I')) ∧ eqo [10, 40, 41, 42, 43] I I' ∧ ∀ p, p < 16 → I' 43 0 p = nI (bo A x p)) ?_ ?_ 0 (wr (wr I 40 0 0 (A 0 0 0) (fun p => nI (wgt A x p))) 43 0 0 16 (fun _ => nI 0), none, none) (Nat.zero_le _) ?_
  rotate_left
  rotate_left
  · dsimp only
    refine ⟨eqo_wr (eqo_wr (eqo_rf _ _) (by decide)) (by decide), fun p hp => ?_, fun p hp => ?_⟩
    · rw [wr_F (by omega), wr_T (by omega), Nat.sub_zero]
    · rw [wr_T (by omega)]
      rfl
  · rintro t ⟨J, v, w⟩ ht ⟨j1, j2, j3⟩
    dsimp only at j1 j2 j3 ⊢
    have hCJ : RepC h A J := RepC_o hC g j1 (by decide)
    have FJ : Fix J := Fix_o F (fun r j _ => by rw [j1 7 (by decide)])
    have a0 := s_at (d + 1) h 0 t 0 A J hCJ FJ g hh (by decide) ht (by decide)
    have a1 := s_at (d + 1) h 0 t 1 A J hCJ FJ g hh (by decide) ht (by decide)
    have a2 := s_at (d + 1) h 0 t 2 A J hCJ FJ g hh (by decide) ht (by decide)
    have hm : J 7 (7 * h) 3 = nI (A 0 0 1) := hCJ.2.1 0 (by decide)
    simp only [Nat.add_zero] at a0 a1 a2
    obtain ⟨g0, g1, g2, g3⟩ := trG g ht
    right
    by_cases e : A 4 t 2 = 0
    · refine ⟨(J, some (.inl (nI 0)), w), ⟨j1, j2, fun p hp => ?_⟩, ?_⟩
      · dsimp only
        rw [bt, e]
        split
        · rw [pb_0]; exact j3 p hp
        · exact j3 p hp
      · dsimp only
        rw [e] at a2
        simp (disch := omega) only [e_Walk_tread_6, e_Walk_tread_7, e_Walk_tread_16, e_Walk_tread_5 (x3 := nI t), hm, lit, a2, lit, nad, nml, bd_s, ct_s, ct_n, a11, a01, aB2, bitA, nlt, nle, neq, dlT, dlF, deT, deF, dqT, dqF, nN, inb, nsb, ndv, nrm, if_true, if_false, ite_true, ite_false, true_and, and_true, and_self, and_false, false_and, or_true, true_or, or_false, false_or, or_self, reduceIte, eq_self, Nat.reduceAdd, Nat.reduceMul, Nat.reduceSub, Nat.reduceDiv, Nat.reduceMod, not_true_eq_false, not_false_eq_true, up_T, up_F, wr_T, wr_F, ngE, ngE', ngL, ngL', ngQ, ngQ']
    · obtain ⟨J1, f1, f2, f3⟩ := s_Walk_find d h x (A 4 t 0) (A 4 t 1) A J hCJ g (by omega) (by omega) j2
      by_cases hr : ds A x (A 4 t 1) (A 4 t 0) < 536870912
      · rw [if_pos hr] at f1
        obtain ⟨f4, f5, f6⟩ := f3 hr
        have hrc := (ds_F (x := x) (to := A 4 t 1) gE (by omega)).2.mp hr
        have h9 := dM_9 gE (by omega) hrc
        have k1 : Rn (d + 3) q_Walk_tread 5 [some (.inr (10, 0)), some (.inr (3, h)), some (.inl z), some (.inl (nI t)), v, w] [] J = Rn (d + 3) q_Walk_tread 14 [some (.inr (10, 0)), some (.inr (3, h)), some (.inl z), some (.inl (nI t)), some (.inl (nI (A 4 t 2))), some (.inl (nI 0))] [] J1 := by
          simp (disch := omega) only [e_Walk_tread_6, e_Walk_tread_7, e_Walk_tread_8, e_Walk_tread_9, e_Walk_tread_10, e_Walk_tread_11, e_Walk_tread_13, e_Walk_tread_5 (x3 := nI t), hm, lit, a0, a1, a2, f1, lit, nad, nml, bd_s, ct_s, ct_n, a11, a01, aB2, bitA, nlt, nle, neq, dlT, dlF, deT, deF, dqT, dqF, nN, inb, nsb, ndv, nrm, if_true, if_false, ite_true, ite_false, true_and, and_true, and_self, and_false, false_and, or_true, true_or, or_false, false_or, or_self, reduceIte, eq_self, Nat.reduceAdd, Nat.reduceMul, Nat.reduceSub, Nat.reduceDiv, Nat.reduceMod, not_true_eq_false, not_false_eq_true, up_T, up_F, wr_T, wr_F, ngE, ngE', ngL, ngL', ngQ, ngQ']
        rw [k1]
        have hbt : bt A x (t + 1) = pb A x (A 4 t 1) (A 4 t 0) (A 4 t 2) (bt A x t) (dM A x (A 4 t 1) (A 4 t 0)) := by rw [bt, if_pos hr]
        refine lpX (n := dM A x (A 4 t 1) (A 4 t 0)) (σ := mm_I) (fun k s => Rn (d + 3) q_Walk_tread 14 [some (.inr (10, 0)), some (.inr (3, h)), some (.inl z), some (.inl (nI t)), some (.inl (nI (A 4 t 2))), some (.inl (nI k))] [] s) (fun k s => eqo [43] J1 s ∧ ∀ p, p < 16 → s 43 0 p = nI (pb A x (A 4 t 1) (A 4 t 0) (A 4 t 2) (bt A x t) k p)) (fun q => ∃ s' : mm_I × Option mm_V × Option mm_V, (eqo [10, 40, 41, 42, 43] I s'.1 ∧ (∀ p, p < A 0 0 0 → s'.1 40 0 p = nI (wgt A x p)) ∧ ∀ p, p < 16 → s'.1 43 0 p = nI (bt A x (t + 1) p)) ∧ q = Rn (d + 3) q_Walk_tread 5 [some (.inr (10, 0)), some (.inr (3, h)), some (.inl z), some (.inl (nI (t + 1))), s'.2.1, s'.2.2] [] s'.1) ?_ ?_ 0 J1 (Nat.zero_le _) ⟨eqo_rf _ _, fun p hp => by rw [f2 43 (by decide)]; exact j3 p hp⟩
        · rintro k K hk ⟨k2, k3⟩
          have hp := wp_lt gE (by omega) hrc hk
          have k4 : K 42 0 k = nI (wp A x (A 4 t 1) (A 4 t 0) k) := by rw [k2 42 (by decide)]; exact f6 k hk
          have k5 : K 10 0 4 = nI (dM A x (A 4 t 1) (A 4 t 0)) := by rw [k2 10 (by decide)]; exact f4
          have k6 := k3 _ (show wp A x (A 4 t 1) (A 4 t 0) k < 16 by omega)
          refine Or.inr ⟨mm_up K 43 0 (wp A x (A 4 t 1) (A 4 t 0) k) (nI (pb A x (A 4 t 1) (A 4 t 0) (A 4 t 2) (bt A x t) k (wp A x (A 4 t 1) (A 4 t 0) k) + A 4 t 2)), ⟨eqo_up k2 (by decide), fun p hp2 => ?_⟩, ?_⟩
          · rw [pb]
            by_cases q : p = wp A x (A 4 t 1) (A 4 t 0) k
            · rw [q, up_s, uN_s]
            · rw [up_F (by omega), uN_n q]; exact k3 p hp2
          · simp (disch := omega) only [e_Walk_tread_15, e_Walk_tread_14 (x5 := nI k), k4, k5, k6, lit, nad, nml, bd_s, ct_s, ct_n, a11, a01, aB2, bitA, nlt, nle, neq, dlT, dlF, deT, deF, dqT, dqF, nN, inb, nsb, ndv, nrm, if_true, if_false, ite_true, ite_false, true_and, and_true, and_self, and_false, false_and, or_true, true_or, or_false, false_or, or_self, reduceIte, eq_self, Nat.reduceAdd, Nat.reduceMul, Nat.reduceSub, Nat.reduceDiv, Nat.reduceMod, not_true_eq_false, not_false_eq_true, up_T, up_F, wr_T, wr_F, ngE, ngE', ngL, ngL', ngQ, ngQ']
        · rintro K ⟨k2, k3⟩
          have k5 : K 10 0 4 = nI (dM A x (A 4 t 1) (A 4 t 0)) := by rw [k2 10 (by decide)]; exact f4
          refine ⟨(K, some (.inl (nI (A 4 t 2))), some (.inl (nI (dM A x (A 4 t 1) (A 4 t 0))))), ⟨eqo_tr (eqo_tr j1 (eqo_mono f2 (by decide))) (eqo_mono k2 (by decide)), fun p hp => by dsimp only; rw [k2 40 (by decide), f2 40 (by decide)]; exact j2 p hp, fun p hp => by dsimp only; rw [hbt]; exact k3 p hp⟩, ?_⟩
          dsimp only
          simp (disch := omega) only [e_Walk_tread_14, e_Walk_tread_16, k5, lit, nad, nml, bd_s, ct_s, ct_n, a11, a01, aB2, bitA, nlt, nle, neq, dlT, dlF, deT, deF, dqT, dqF, nN, inb, nsb, ndv, nrm, if_true, if_false, ite_true, ite_false, true_and, and_true, and_self, and_false, false_and, or_true, true_or, or_false, false_or, or_self, reduceIte, eq_self, Nat.reduceAdd, Nat.reduceMul, Nat.reduceSub, Nat.reduceDiv, Nat.reduceMod, not_true_eq_false, not_false_eq_true, up_T, up_F, wr_T, wr_F, ngE, ngE', ngL, ngL', ngQ, ngQ']
      · rw [if_neg hr] at f1
        refine ⟨(J1, some (.inl (nI (A 4 t 2))), w), ⟨eqo_tr j1 (eqo_mono f2 (by decide)), fun p hp => by dsimp only; rw [f2 40 (by decide)]; exact j2 p hp, fun p hp => ?_⟩, ?_⟩
        · dsimp only
          rw [bt, if_neg hr, f2 43 (by decide)]
          exact j3 p hp
        · dsimp only
          simp (disch := omega) only [e_Walk_tread_6, e_Walk_tread_7, e_Walk_tread_8, e_Walk_tread_9, e_Walk_tread_10, e_Walk_tread_11, e_Walk_tread_12, e_Walk_tread_16, e_Walk_tread_5 (x3 := nI t), hm, lit, a0, a1, a2, f1, lit, nad, nml, bd_s, ct_s, ct_n, a11, a01, aB2, bitA, nlt, nle, neq, dlT, dlF, deT, deF, dqT, dqF, nN, inb, nsb, ndv, nrm, if_true, if_false, ite_true, ite_false, true_and, and_true, and_self, and_false, false_and, or_true, true_or, or_false, false_or, or_self, reduceIte, eq_self, Nat.reduceAdd, Nat.reduceMul, Nat.reduceSub, Nat.reduceDiv, Nat.reduceMod, not_true_eq_false, not_false_eq_true, up_T, up_F, wr_T, wr_F, ngE, ngE', ngL, ngL', ngQ, ngQ']
  · rintro ⟨J, v, w⟩ ⟨j1, j2, j3⟩
    dsimp only at j1 j2 j3 ⊢
    have hm : J 7 (7 * h) 3 = nI (A 0 0 1) := by rw [j1 7 (by decide)]; exact hC.2.1 0 (by decide)
    refine ⟨J, ?_, j1, j3⟩
    simp (disch := omega) only [e_Walk_tread_5, e_Walk_tread_17, hm, lit, nad, nml, bd_s, ct_s, ct_n, a11, a01, aB2, bitA, nlt, nle, neq, dlT, dlF, deT, deF, dqT, dqF, nN, inb, nsb, ndv, nrm, if_true, if_false, ite_true, ite_false, true_and, and_true, and_self, and_false, false_and, or_true, true_or, or_false, false_or, or_self, reduceIte, eq_self, Nat.reduceAdd, Nat.reduceMul, Nat.reduceSub, Nat.reduceDiv, Nat.reduceMod, not_true_eq_false, not_false_eq_true, up_T, up_F, wr_T, wr_F, ngE, ngE', ngL, ngL', ngQ, ngQ']
