/-! roster. -/
def BR (J : Nat) : BS → mm_I → Prop
  | none, K => K 12 0 39 = -nI 1
  | some (m, d, q), K => ∃ c, c ≤ 15625 ∧ K 12 0 39 = nI c ∧ q = dgs (J + 1) 0 (fun _ => 0) c ∧ K 12 0 37 = nI m ∧ K 12 0 38 = nI d ∧ m ≤ 4 ∧ d ≤ 1000
theorem BR_e {J : Nat} {s : BS} {I I' : mm_I} (h : BR J s I) (e : I' 12 = I 12) : BR J s I' := by
  cases s with
  | none => show I' 12 0 39 = -nI 1; rw [e]; exact h
  | some v =>
    obtain ⟨m, d, q⟩ := v
    show ∃ c, c ≤ 15625 ∧ I' 12 0 39 = nI c ∧ q = dgs (J + 1) 0 (fun _ => 0) c ∧ I' 12 0 37 = nI m ∧ I' 12 0 38 = nI d ∧ m ≤ 4 ∧ d ≤ 1000
    rw [e]; exact h
def f39 (I K : mm_I) : Prop := eqo [12, 62, 63] I K ∧ ∀ s, s ≠ 37 → s ≠ 38 → s ≠ 39 → K 12 0 s = I 12 0 s
theorem hs_b {gv : Nat → Nat → Nat} (hg : ∀ w j, gv w j ≤ 20) (q : Nat → Nat) (j : Nat) : hsN gv 6 q j ≤ 120 := by
  have : hsN gv 6 q j ≤ 20 * 6 := sm_le (fun i _ => by have := hg i j; split <;> omega)
  omega
theorem s_frTake (d N x m dd J : Nat) (v6 : Option mm_V) (v5 : Int32) (s : BS) (I K : mm_I) (hx : x ≤ 15625) (hm : m ≤ 4) (hd : dd ≤ 1000) (hB : BR J s K) (hf : f39 I K) : ∃ K', Rn (d + 3) q_M_findRoster 17 [some (.inr (12, 0)), some (.inl (nI N)), some (.inl (nI x)), some (.inl (nI m)), some (.inl (nI dd)), some (.inl v5), v6] [] K = Rn (d + 3) q_M_findRoster 22 [some (.inr (12, 0)), some (.inl (nI N)), some (.inl (nI x)), some (.inl (nI m)), some (.inl (nI dd)), some (.inl v5), v6] [] K' ∧ eqo [12] K K' ∧ f39 I K' ∧ BR J (tkB s m dd (dgs (J + 1) 0 (fun _ => 0) x)) K' := by
  have e3 : eqo [12] K (mm_up (mm_up (mm_up K 12 0 39 (nI x)) 12 0 37 (nI m)) 12 0 38 (nI dd)) := eqo_up (eqo_up (eqo_up (eqo_rf _ _) (by decide)) (by decide)) (by decide)
  have fK : f39 I (mm_up (mm_up (mm_up K 12 0 39 (nI x)) 12 0 37 (nI m)) 12 0 38 (nI dd)) := ⟨eqo_tr hf.1 (eqo_mono e3 (by decide)), fun s h1 h2 h3 => by rw [up_F (by omega), up_F (by omega), up_F (by omega)]; exact hf.2 s h1 h2 h3⟩
  have bK : BR J (some (m, dd, dgs (J + 1) 0 (fun _ => 0) x)) (mm_up (mm_up (mm_up K 12 0 39 (nI x)) 12 0 37 (nI m)) 12 0 38 (nI dd)) := ⟨x, hx, by rw [up_F (by omega), up_F (by omega), up_s], rfl, by rw [up_F (by omega), up_s], by rw [up_s], hm, hd⟩
  have t21 : Rn (d + 3) q_M_findRoster 21 [some (.inr (12, 0)), some (.inl (nI N)), some (.inl (nI x)), some (.inl (nI m)), some (.inl (nI dd)), some (.inl v5), v6] [] K = Rn (d + 3) q_M_findRoster 22 [some (.inr (12, 0)), some (.inl (nI N)), some (.inl (nI x)), some (.inl (nI m)), some (.inl (nI dd)), some (.inl v5), v6] [] (mm_up (mm_up (mm_up K 12 0 39 (nI x)) 12 0 37 (nI m)) 12 0 38 (nI dd)) := by
    simp (disch := omega) only [e_M_findRoster_21, lit, nad, nml, bd_s, ct_s, ct_n, a11, a01, aB2, bitA, nlt, nle, neq, dlT, dlF, deT, deF, dqT, dqF, nN, inb, nsb, ndv, nrm, if_true, if_false, ite_true, ite_false, true_and, and_true, and_self, and_false, false_and, or_true, true_or, or_false, false_or, or_self, ↓reduceIte, eq_self, Nat.reduceAdd, Nat.reduceMul, Nat.reduceSub, Nat.reduceDiv, Nat.reduceMod, Nat.zero_add, Nat.mul_zero, not_true_eq_false, not_false_eq_true, up_T, up_F, wr_T, wr_F, ngE, ngE', ngL, ngL', ngQ, ngQ']
  cases c : bet m dd s with
  | true =>
    unfold tkB
    rw [c, if_pos rfl]
    refine ⟨_, ?_, e3, fK, bK⟩
    rw [← t21]
    cases s with
    | none =>
      have l : K 12 0 39 = -nI 1 := hB
      rw [e_M_findRoster_17, l, if_pos (by decide)]
    | some v =>
      obtain ⟨m', d', q⟩ := v
      obtain ⟨cc, c0, c1, c2, c3, c4, c5, c6⟩ := hB
      simp only [bet, Bool.or_eq_true, Bool.and_eq_true, decide_eq_true_eq] at c
      by_cases z : m' < m
      · simp (disch := omega) only [e_M_findRoster_17, e_M_findRoster_18, lit, nad, nml, bd_s, ct_s, ct_n, a11, a01, aB2, bitA, nlt, nle, neq, dlT, dlF, deT, deF, dqT, dqF, nN, inb, nsb, ndv, nrm, if_true, if_false, ite_true, ite_false, true_and, and_true, and_self, and_false, false_and, or_true, true_or, or_false, false_or, or_self, ↓reduceIte, eq_self, Nat.reduceAdd, Nat.reduceMul, Nat.reduceSub, Nat.reduceDiv, Nat.reduceMod, Nat.zero_add, Nat.mul_zero, not_true_eq_false, not_false_eq_true, up_T, up_F, wr_T, wr_F, ngE, ngE', ngL, ngL', ngQ, ngQ', c1, c3]
      · have z2 : m = m' := by omega
        have z3 : d' < dd := by omega
        subst z2
        simp (disch := omega) only [e_M_findRoster_17, e_M_findRoster_18, e_M_findRoster_19, e_M_findRoster_20, lit, nad, nml, bd_s, ct_s, ct_n, a11, a01, aB2, bitA, nlt, nle, neq, dlT, dlF, deT, deF, dqT, dqF, nN, inb, nsb, ndv, nrm, if_true, if_false, ite_true, ite_false, true_and, and_true, and_self, and_false, false_and, or_true, true_or, or_false, false_or, or_self, ↓reduceIte, eq_self, Nat.reduceAdd, Nat.reduceMul, Nat.reduceSub, Nat.reduceDiv, Nat.reduceMod, Nat.zero_add, Nat.mul_zero, not_true_eq_false, not_false_eq_true, up_T, up_F, wr_T, wr_F, ngE, ngE', ngL, ngL', ngQ, ngQ', c1, c3, c4]
  | false =>
    unfold tkB
    rw [c, if_neg (by decide)]
    refine ⟨K, ?_, eqo_rf _ _, hf, hB⟩
    cases s with
    | none => cases c
    | some v =>
      obtain ⟨m', d', q⟩ := v
      obtain ⟨cc, c0, c1, c2, c3, c4, c5, c6⟩ := hB
      simp only [bet, Bool.or_eq_false_iff, Bool.and_eq_false_iff, decide_eq_false_iff_not] at c
      by_cases z2 : m = m'
      · have z3 : ¬ d' < dd := by omega
        subst z2
        simp (disch := omega) only [e_M_findRoster_17, e_M_findRoster_18, e_M_findRoster_19, e_M_findRoster_20, lit, nad, nml, bd_s, ct_s, ct_n, a11, a01, aB2, bitA, nlt, nle, neq, dlT, dlF, deT, deF, dqT, dqF, nN, inb, nsb, ndv, nrm, if_true, if_false, ite_true, ite_false, true_and, and_true, and_self, and_false, false_and, or_true, true_or, or_false, false_or, or_self, ↓reduceIte, eq_self, Nat.reduceAdd, Nat.reduceMul, Nat.reduceSub, Nat.reduceDiv, Nat.reduceMod, Nat.zero_add, Nat.mul_zero, not_true_eq_false, not_false_eq_true, up_T, up_F, wr_T, wr_F, ngE, ngE', ngL, ngL', ngQ, ngQ', c1, c3, c4]
      · have z3 : ¬ m' < m := by omega
        simp (disch := omega) only [e_M_findRoster_17, e_M_findRoster_18, e_M_findRoster_19, lit, nad, nml, bd_s, ct_s, ct_n, a11, a01, aB2, bitA, nlt, nle, neq, dlT, dlF, deT, deF, dqT, dqF, nN, inb, nsb, ndv, nrm, if_true, if_false, ite_true, ite_false, true_and, and_true, and_self, and_false, false_and, or_true, true_or, or_false, false_or, or_self, ↓reduceIte, eq_self, Nat.reduceAdd, Nat.reduceMul, Nat.reduceSub, Nat.reduceDiv, Nat.reduceMod, Nat.zero_add, Nat.mul_zero, not_true_eq_false, not_false_eq_true, up_T, up_F, wr_T, wr_F, ngE, ngE', ngL, ngL', ngQ, ngQ', c1, c3, c4]
theorem s_M_findRoster (d : Nat) (A : mm_A) (I : mm_I) (hR : RepR 0 A I) (g : Good A) : ∃ I', Sn (d + 4) q_M_findRoster [.inr (12, 0)] I = some (none, (sh0, I')) ∧ f39 I I' ∧ BR (A 0 0 8) (rsA A) I' := by
  have hJ : A 0 0 8 ≤ 4 := g.2.1 6 (by decide)
  have hn : ∀ j, j < A 0 0 8 → ndA A j ≤ 60 := fun j hj => (jbG g hj).2.2
  have hN : (A 0 0 8 + 1) ^ 6 ≤ 15625 := pw_b hJ (by omega)
  obtain ⟨I1, v3, p1, p2, p3⟩ := s_frFill d A I hR g
  have hrs : rsA A = fo (fun y => lfT (A 0 0 8) (ndA A) (gvA A) (dgs (A 0 0 8 + 1) 0 (fun _ => 0) y)) ((A 0 0 8 + 1) ^ 6) none := rf_code 6 0 _ _ _ rfl (fun j _ => rfl)
  have k0 : Rn (d + 3) q_M_findRoster 7 [some (.inr (12, 0)), some (.inl (nI ((A 0 0 8 + 1) ^ 6))), some (.inl (nI 6)), v3, none, none, none] [] I1 = Rn (d + 3) q_M_findRoster 8 [some (.inr (12, 0)), some (.inl (nI ((A 0 0 8 + 1) ^ 6))), some (.inl (nI 0)), v3, none, none, none] [] (mm_up I1 12 0 39 (-nI 1)) := by
    simp (disch := omega) only [e_M_findRoster_7, lit, nad, nml, bd_s, ct_s, ct_n, a11, a01, aB2, bitA, nlt, nle, neq, dlT, dlF, deT, deF, dqT, dqF, nN, inb, nsb, ndv, nrm, if_true, if_false, ite_true, ite_false, true_and, and_true, and_self, and_false, false_and, or_true, true_or, or_false, false_or, or_self, ↓reduceIte, eq_self, Nat.reduceAdd, Nat.reduceMul, Nat.reduceSub, Nat.reduceDiv, Nat.reduceMod, Nat.zero_add, Nat.mul_zero, not_true_eq_false, not_false_eq_true, up_T, up_F, wr_T, wr_F, ngE, ngE', ngL, ngL', ngQ, ngQ']
  rw [p1, k0, hrs]
  generalize hNN : (A 0 0 8 + 1) ^ 6 = N at hN ⊢
  refine lpX (n := N) (σ := Option mm_V × Option mm_V × Option mm_V × Option mm_V × mm_I) (fun x s => Rn (d + 3) q_M_findRoster 8 [some (.inr (12, 0)), some (.inl (nI N)), some (.inl (nI x)), s.1, s.2.1, s.2.2.1, s.2.2.2.1] [] s.2.2.2.2) (fun x s => f39 I s.2.2.2.2 ∧ T62 (A 0 0 8) (gvA A) s.2.2.2.2 ∧ BR (A 0 0 8) (fo (fun y => lfT (A 0 0 8) (ndA A) (gvA A) (dgs (A 0 0 8 + 1) 0 (fun _ => 0) y)) x none) s.2.2.2.2) (fun q => ∃ I', q = some (none, (sh0, I')) ∧ f39 I I' ∧ BR (A 0 0 8) (fo (fun y => lfT (A 0 0 8) (ndA A) (gvA A) (dgs (A 0 0 8 + 1) 0 (fun _ => 0) y)) N none) I') ?_ ?_ 0 (v3, none, none, none, mm_up I1 12 0 39 (-nI 1)) (Nat.zero_le _) ?_
  · rintro x ⟨a, b, c, e, K⟩ hx ⟨k1, k2, k3⟩
    dsimp only at k1 k2 k3 ⊢
    right
    have hR1 : RepR 0 A K := RepR_o hR (by rw [k1.1 47 (by decide)])
    obtain ⟨K1, t1, t2, t3⟩ := s_M_tries (d + 2) x (A 0 0 8) (gvA A) K hJ (by omega) (hR1.1 8 (by decide)) k2 (gvA_b g)
    have hR2 : RepR 0 A K1 := RepR_o hR1 (by rw [t2 47 (by decide)])
    obtain ⟨w6, u1⟩ := s_frLeaf d N x e (hsN (gvA A) 6 (dgs (A 0 0 8 + 1) 0 (fun _ => 0) x)) A K1 hR2 g t3 (fun j _ => hs_b (gvA_b g) _ j)
    have b3 := mt_b (ndA A) (hsN (gvA A) 6 (dgs (A 0 0 8 + 1) 0 (fun _ => 0) x)) (A 0 0 8)
    have b4 := dy_b (h := hsN (gvA A) 6 (dgs (A 0 0 8 + 1) 0 (fun _ => 0) x)) hn (A 0 0 8) (Nat.le_refl _)
    have fK1 : f39 I K1 := ⟨eqo_tr k1.1 (eqo_mono t2 (by decide)), fun s h1 h2 h3 => by rw [t2 12 (by decide)]; exact k1.2 s h1 h2 h3⟩
    obtain ⟨K2, w1, w2, w3, w4⟩ := s_frTake d N x _ _ (A 0 0 8) w6 (nI (A 0 0 8)) _ I K1 (by omega) (show mtN (ndA A) (hsN (gvA A) 6 (dgs (A 0 0 8 + 1) 0 (fun _ => 0) x)) (A 0 0 8) ≤ 4 by omega) (show dyN (ndA A) (hsN (gvA A) 6 (dgs (A 0 0 8 + 1) 0 (fun _ => 0) x)) (A 0 0 8) ≤ 1000 by omega) (BR_e k3 (t2 12 (by decide))) fK1
    refine ⟨(some (.inl (nI (mtN (ndA A) (hsN (gvA A) 6 (dgs (A 0 0 8 + 1) 0 (fun _ => 0) x)) (A 0 0 8)))), some (.inl (nI (dyN (ndA A) (hsN (gvA A) 6 (dgs (A 0 0 8 + 1) 0 (fun _ => 0) x)) (A 0 0 8)))), some (.inl (nI (A 0 0 8))), w6, K2), ⟨w3, ?_, w4⟩, ?_⟩
    rotate_left
    · dsimp only
      have st : Rn (d + 3) q_M_findRoster 8 [some (.inr (12, 0)), some (.inl (nI N)), some (.inl (nI x)), a, b, c, e] [] K = Rn (d + 3) q_M_findRoster 11 [some (.inr (12, 0)), some (.inl (nI N)), some (.inl (nI x)), some (.inl (nI 0)), some (.inl (nI 0)), some (.inl (nI 0)), e] [] K1 := by
        simp (disch := omega) only [e_M_findRoster_9, e_M_findRoster_10, e_M_findRoster_8 (x2 := nI x), lit, nad, nml, bd_s, ct_s, ct_n, a11, a01, aB2, bitA, nlt, nle, neq, dlT, dlF, deT, deF, dqT, dqF, nN, inb, nsb, ndv, nrm, if_true, if_false, ite_true, ite_false, true_and, and_true, and_self, and_false, false_and, or_true, true_or, or_false, false_or, or_self, ↓reduceIte, eq_self, Nat.reduceAdd, Nat.reduceMul, Nat.reduceSub, Nat.reduceDiv, Nat.reduceMod, Nat.zero_add, Nat.mul_zero, not_true_eq_false, not_false_eq_true, up_T, up_F, wr_T, wr_F, ngE, ngE', ngL, ngL', ngQ, ngQ', t1]
      rw [st, u1, w1, e_M_findRoster_22, show nI x + (1 : Int32) = nI (x + 1) from nad x 1]
    · unfold T62
      dsimp only
      rw [w2 62 (by decide), t2 62 (by decide)]
      exact k2
  · rintro ⟨a, b, c, e, K⟩ ⟨k1, k2, k3⟩
    dsimp only at k1 k2 k3 ⊢
    refine ⟨K, ?_, k1, k3⟩
    simp (disch := omega) only [e_M_findRoster_8, e_M_findRoster_23, lit, nad, nml, bd_s, ct_s, ct_n, a11, a01, aB2, bitA, nlt, nle, neq, dlT, dlF, deT, deF, dqT, dqF, nN, inb, nsb, ndv, nrm, if_true, if_false, ite_true, ite_false, true_and, and_true, and_self, and_false, false_and, or_true, true_or, or_false, false_or, or_self, ↓reduceIte, eq_self, Nat.reduceAdd, Nat.reduceMul, Nat.reduceSub, Nat.reduceDiv, Nat.reduceMod, Nat.zero_add, Nat.mul_zero, not_true_eq_false, not_false_eq_true, up_T, up_F, wr_T, wr_F, ngE, ngE', ngL, ngL', ngQ, ngQ']
  · refine ⟨⟨eqo_up (eqo_mono p2 (by decide)) (by decide), fun s h1 h2 h3 => ?_⟩, ?_, ?_⟩
    · dsimp only
      rw [up_F (by omega), p2 12 (by decide)]
    · unfold T62
      dsimp only
      intro w hw
      exact ⟨by rw [up_F (by omega)]; exact (p3 w hw).1, fun j hj => by rw [up_F (by omega)]; exact (p3 w hw).2 j hj⟩
    · show mm_up I1 12 0 39 (-nI 1) 12 0 39 = -nI 1
      rw [up_s]
theorem DD_none {J : Nat} {nd : Nat → Nat} {gv : Nat → Nat → Nat} : ∀ n w h, ¬ DD J nd gv n w h none := by
  intro n
  induction n with
  | zero => intro w h q; cases q
  | succ n ih => intro w h q; exact ih _ _ (q 0 (by omega))
theorem rs_some (A : mm_A) : ∃ m d c, rsA A = some (m, d, c) := by
  have h : DD (A 0 0 8) (ndA A) (gvA A) 6 0 (fun _ => 0) (rsA A) := rf_DD _ _ _ _ _
  cases q : rsA A with
  | none => rw [q] at h; exact absurd h (DD_none _ _ _)
  | some v => exact ⟨v.1, v.2.1, v.2.2, rfl⟩
