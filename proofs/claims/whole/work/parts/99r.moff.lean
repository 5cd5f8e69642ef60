/-! findChoice of the reference: the offers. -/
def Rc (A : mm_A) (y i k : Nat) (K : mm_I) : Prop := K 59 0 (5 * i + k) = (if cO A i k = true then nI (cP A i k) else -nI 1) ∧ K 58 0 (5 * i + k) = zI (cW A y i k)
theorem Rc_c {A : mm_A} {y i k : Nat} {K K' : mm_I} (h : Rc A y i k K) (e1 : K' 58 0 (5 * i + k) = K 58 0 (5 * i + k)) (e2 : K' 59 0 (5 * i + k) = K 59 0 (5 * i + k)) : Rc A y i k K' := by unfold Rc; rw [e1, e2]; exact h
theorem s_fcOne (d i k y c N : Nat) (v7 v8 v9 v10 : Option mm_V) (A : mm_A) (K : mm_I) (hR : RepR 0 A K) (g : Good A) (hi : i < A 0 0 4) (hk1 : 1 ≤ k) (hk : k < 5) (hy : y ≤ 30) (h51 : ∀ p, p < 16 → K 51 0 p = nI (bo A 99 p)) : ∃ K', Rn (d + 6) q_M_findChoice 4 [some (.inr (12, 0)), some (.inl (nI y)), some (.inl (nI c)), some (.inl (nI N)), some (.inl (nI i)), some (.inl (nI (cpA A i))), some (.inl (nI k)), v7, v8, v9, v10] [] K = Rn (d + 6) q_M_findChoice 4 [some (.inr (12, 0)), some (.inl (nI y)), some (.inl (nI c)), some (.inl (nI N)), some (.inl (nI i)), some (.inl (nI (cpA A i))), some (.inl (nI (k + 1))), v7, v8, v9, v10] [] K' ∧ eqo [56, 57, 58, 59] K K' ∧ Rc A y i k K' ∧ ∀ j, j ≠ 5 * i + k → K' 58 0 j = K 58 0 j ∧ K' 59 0 j = K 59 0 j := by
  have hp := cpG g hi
  have h6 : A 0 0 4 ≤ 6 := g.2.1 2 (by decide)
  have hn := g.1.1
  have t1 : 0 ≤ (nI (5 * i + k)).toInt ∧ (nI (5 * i + k)).toInt < ((30 : Nat) : Int) := by rw [nI_toInt (by omega)]; omega
  have ix5 : (5 : Int32) * nI i + nI k = nI (5 * i + k) := by rw [show (5 : Int32) = nI 5 from rfl, nml, nad]
  have nk : nI k + (1 : Int32) = nI (k + 1) := nad k 1
  have hcond : i < A 0 0 4 ∧ 1 ≤ k ∧ k < 5 := ⟨hi, hk1, hk⟩
  have wo := s_M_worthOf (d + 1) (cpA A i) k y (bo A 99 (cpA A i)) A K hR g hp hk1 (by omega) hy (bo_b g _) (h51 _ (by omega))
  have wb0 := wb_b g hp 0 (bo A 99 (cpA A i)) y
  have wbk := wb_b g hp k (bo A 99 (cpA A i)) y
  have pr := pr_n g hp (show k ≤ 4 by omega)
  have wz : woA A (cpA A i) k (bo A 99 (cpA A i)) y = zI (cW A y i k) := by
    unfold woA cW
    rw [if_pos hcond, zsb (by omega) (by omega)]
  have hR1 : RepR 0 A (mm_up K 58 0 (5 * i + k) (zI (cW A y i k))) := RepR_o hR (by funext j; exact up_F (by omega))
  obtain ⟨K2, r1, r2⟩ := s_M_ruled d (cpA A i) 0 0 (nI k) A _ hR1 g hp (by decide) (fun q => by cases q)
  have hR2 : RepR 0 A K2 := RepR_o hR1 (by rw [r2 47 (by decide)])
  have st : Rn (d + 6) q_M_findChoice 4 [some (.inr (12, 0)), some (.inl (nI y)), some (.inl (nI c)), some (.inl (nI N)), some (.inl (nI i)), some (.inl (nI (cpA A i))), some (.inl (nI k)), v7, v8, v9, v10] [] K = Rn (d + 6) q_M_findChoice 7 [some (.inr (12, 0)), some (.inl (nI y)), some (.inl (nI c)), some (.inl (nI N)), some (.inl (nI i)), some (.inl (nI (cpA A i))), some (.inl (nI k)), v7, v8, v9, v10] [.inl (ruA A (cpA A i) 0 (nI k) 0), .inl (nI (5 * i + k)), .inr (59, 0)] K2 := by
    rw [e_M_findChoice_4, if_pos (by rw [show (5 : Int32) = nI 5 from rfl, nlt (by omega) (by omega)]; exact hk), e_M_findChoice_5, wo, bd_s, ct_s]
    refine (e_M_findChoice_6 (d + 6) (nI y) (nI c) (nI N) (nI i) (nI (cpA A i)) (nI k) v7 v8 v9 v10 _ _ K).trans ?_
    rw [ix5, if_pos t1, nN (by omega), wz, show (0 : Int32) = nI 0 from rfl, r1, bd_s, ct_s]
  have e58 : K2 58 = mm_up K 58 0 (5 * i + k) (zI (cW A y i k)) 58 := r2 58 (by decide)
  have e59 : K2 59 = K 59 := by rw [r2 59 (by decide)]; funext a b; exact up_F (by omega)
  have eq2 : eqo [56, 57, 58, 59] K K2 := eqo_tr (eqo_up (eqo_rf _ _) (by decide)) (eqo_mono r2 (by decide))
  by_cases z : ruA A (cpA A i) 0 (nI k) 0 = 0
  · have hO : cO A i k = false := by unfold cO; rw [if_pos hcond, z]; rfl
    refine ⟨mm_up K2 59 0 (5 * i + k) (-nI 1), ?_, eqo_up eq2 (by decide), ⟨?_, ?_⟩, fun j hj => ⟨?_, ?_⟩⟩
    · rw [st, e_M_findChoice_7, if_pos z, e_M_findChoice_8, e_M_findChoice_10, if_pos t1, nN (by omega), nk]
      rfl
    · rw [up_s, hO, if_neg (by decide)]
    · rw [up_F (by omega), e58, up_s]
    · rw [up_F (by omega), e58, up_F (by omega)]
    · rw [up_F (by omega), e59]
  · have hO : cO A i k = true := by unfold cO; rw [if_pos hcond]; exact decide_eq_true z
    obtain ⟨K3, r3, r4⟩ := s_M_ruled d (cpA A i) 2 0 (nI k) A K2 hR2 g hp (by decide) (fun q => by cases q)
    rw [pr.1] at r3
    refine ⟨mm_up K3 59 0 (5 * i + k) (nI (prN A (cpA A i) k)), ?_, eqo_up (eqo_tr eq2 (eqo_mono r4 (by decide))) (by decide), ⟨?_, ?_⟩, fun j hj => ⟨?_, ?_⟩⟩
    · rw [st, e_M_findChoice_7, if_neg z, e_M_findChoice_9, show (2 : Int32) = nI 2 from rfl, r3, bd_s, ct_s]
      refine (e_M_findChoice_10 (d + 6) (nI y) (nI c) (nI N) (nI i) (nI (cpA A i)) (nI k) v7 v8 v9 v10 _ _ K3).trans ?_
      rw [if_pos t1, nN (by omega), nk]
    · rw [up_s, hO, if_pos rfl]
      unfold cP
      rw [if_pos hcond]
    · rw [up_F (by omega), r4 58 (by decide), e58, up_s]
    · rw [up_F (by omega), r4 58 (by decide), e58, up_F (by omega)]
    · rw [up_F (by omega), r4 59 (by decide), e59]
theorem s_fcRow (d i y c N : Nat) (v5 v6 v7 v8 v9 v10 : Option mm_V) (A : mm_A) (K : mm_I) (hR : RepR 0 A K) (g : Good A) (hi : i < A 0 0 4) (hy : y ≤ 30) (h51 : ∀ p, p < 16 → K 51 0 p = nI (bo A 99 p)) : ∃ K', Rn (d + 6) q_M_findChoice 3 [some (.inr (12, 0)), some (.inl (nI y)), some (.inl (nI c)), some (.inl (nI N)), some (.inl (nI i)), v5, v6, v7, v8, v9, v10] [] K = Rn (d + 6) q_M_findChoice 11 [some (.inr (12, 0)), some (.inl (nI y)), some (.inl (nI c)), some (.inl (nI N)), some (.inl (nI i)), some (.inl (nI (cpA A i))), some (.inl (nI 5)), v7, v8, v9, v10] [] K' ∧ eqo [56, 57, 58, 59] K K' ∧ (∀ k, k < 5 → Rc A y i k K') ∧ ∀ j, ¬ (5 * i ≤ j ∧ j < 5 * i + 5) → K' 58 0 j = K 58 0 j ∧ K' 59 0 j = K 59 0 j := by
  have h6 : A 0 0 4 ≤ 6 := g.2.1 2 (by decide)
  have l0 : K 47 0 (272 + 1 * i + 0) = nI (A 6 i 0) := hR.2.2.2.2 2 i 0 (by decide) hi (by decide)
  rw [Nat.one_mul, Nat.add_zero] at l0
  have st : Rn (d + 6) q_M_findChoice 3 [some (.inr (12, 0)), some (.inl (nI y)), some (.inl (nI c)), some (.inl (nI N)), some (.inl (nI i)), v5, v6, v7, v8, v9, v10] [] K = Rn (d + 6) q_M_findChoice 4 [some (.inr (12, 0)), some (.inl (nI y)), some (.inl (nI c)), some (.inl (nI N)), some (.inl (nI i)), some (.inl (nI (cpA A i))), some (.inl (nI 1)), v7, v8, v9, v10] [] (mm_up (mm_up K 58 0 (5 * i) (nI 0)) 59 0 (5 * i) (nI 0)) := by
    have x1 : (272 : Int32) + nI i = nI (272 + i) := nad 272 i
    have x2 : (5 : Int32) * nI i = nI (5 * i) := nml 5 i
    rw [e_M_findChoice_3, x1, x2, if_pos (by rw [nI_toInt (by omega)]; omega), if_pos (by rw [nI_toInt (by omega)]; omega), if_pos (by rw [nI_toInt (by omega)]; omega), nN (by omega), nN (by omega), l0]
    rfl
  rw [st]
  refine lpX (n := 5) (σ := mm_I) (fun k L => Rn (d + 6) q_M_findChoice 4 [some (.inr (12, 0)), some (.inl (nI y)), some (.inl (nI c)), some (.inl (nI N)), some (.inl (nI i)), some (.inl (nI (cpA A i))), some (.inl (nI k)), v7, v8, v9, v10] [] L) (fun k L => 1 ≤ k ∧ eqo [56, 57, 58, 59] K L ∧ (∀ k', k' < k → Rc A y i k' L) ∧ ∀ j, ¬ (5 * i ≤ j ∧ j < 5 * i + 5) → L 58 0 j = K 58 0 j ∧ L 59 0 j = K 59 0 j) (fun q => ∃ K', q = Rn (d + 6) q_M_findChoice 11 [some (.inr (12, 0)), some (.inl (nI y)), some (.inl (nI c)), some (.inl (nI N)), some (.inl (nI i)), some (.inl (nI (cpA A i))), some (.inl (nI 5)), v7, v8, v9, v10] [] K' ∧ eqo [56, 57, 58, 59] K K' ∧ (∀ k, k < 5 → Rc A y i k K') ∧ ∀ j, ¬ (5 * i ≤ j ∧ j < 5 * i + 5) → K' 58 0 j = K 58 0 j ∧ K' 59 0 j = K 59 0 j) ?_ ?_ 1 (mm_up (mm_up K 58 0 (5 * i) (nI 0)) 59 0 (5 * i) (nI 0)) (by decide) ⟨Nat.le_refl _, eqo_up (eqo_up (eqo_rf _ _) (by decide)) (by decide), fun k' hk' => ?_, fun j hj => ?_⟩
  · rintro k L hk ⟨l0, l1, l2, l3⟩
    right
    have hR1 : RepR 0 A L := RepR_o hR (by rw [l1 47 (by decide)])
    obtain ⟨L', a1, a2, a3, a4⟩ := s_fcOne d i k y c N v7 v8 v9 v10 A L hR1 g hi l0 hk hy (fun p hp => by rw [l1 51 (by decide)]; exact h51 p hp)
    refine ⟨L', ⟨by omega, eqo_tr l1 a2, fun k' hk' => ?_, fun j hj => ?_⟩, a1⟩
    · by_cases z : k' = k
      · rw [z]; exact a3
      · exact Rc_c (l2 k' (by omega)) (a4 _ (by omega)).1 (a4 _ (by omega)).2
    · have e1 := l3 j hj
      have e2 := a4 j (by omega)
      exact ⟨e2.1.trans e1.1, e2.2.trans e1.2⟩
  · rintro L ⟨l0, l1, l2, l3⟩
    refine ⟨L, ?_, l1, l2, l3⟩
    rw [e_M_findChoice_4, if_neg (by decide)]
  · rw [show k' = 0 by omega]
    unfold Rc
    rw [(cO_0 A i).1, (cO_0 A i).2, cW_0, if_pos rfl]
    exact ⟨by rw [up_T (by omega)], by rw [up_F (by omega), up_T (by omega)]; rfl⟩
  · exact ⟨by rw [up_F (by omega), up_F (by omega)], by rw [up_F (by omega), up_F (by omega)]⟩
def RcA (A : mm_A) (y : Nat) (K : mm_I) : Prop := ∀ i k, i < A 0 0 4 → k < 5 → Rc A y i k K
theorem s_fcFill (d y c : Nat) (A : mm_A) (I : mm_I) (hR : RepR 0 A I) (g : Good A) (hy : y ≤ 30) (h8 : I 12 0 8 = -nI 1) : ∃ K v5 v6, Sn (d + 7) q_M_findChoice [.inr (12, 0), .inl (nI y), .inl (nI c)] I = Rn (d + 6) q_M_findChoice 13 [some (.inr (12, 0)), some (.inl (nI y)), some (.inl (nI c)), some (.inl (nI (5 ^ A 0 0 4))), some (.inl (nI 0)), v5, v6, none, none, none, none] [] (mm_up K 12 0 32 (-nI 1)) ∧ eqo [12, 48, 49, 50, 51, 56, 57, 58, 59] I K ∧ ex12 7 I K ∧ RcA A y K := by
  have h6 : A 0 0 4 ≤ 6 := g.2.1 2 (by decide)
  obtain ⟨I1, t1, t2, t2', t3⟩ := s_M_findBoots (d + 1) 99 A I hR g (hzM h8)
  have st : Sn (d + 7) q_M_findChoice [.inr (12, 0), .inl (nI y), .inl (nI c)] I = Rn (d + 6) q_M_findChoice 2 [some (.inr (12, 0)), some (.inl (nI y)), some (.inl (nI c)), some (.inl (nI (5 ^ 0))), some (.inl (nI 0)), none, none, none, none, none, none] [] I1 := by
    rw [n_M_findChoice, e_M_findChoice_0, t1, bd_s, ct_n]
    exact e_M_findChoice_1 (d + 6) (nI y) (nI c) none none none none none none none none I1
  rw [st]
  refine lpX (n := A 0 0 4) (σ := Option mm_V × Option mm_V × mm_I) (fun i s => Rn (d + 6) q_M_findChoice 2 [some (.inr (12, 0)), some (.inl (nI y)), some (.inl (nI c)), some (.inl (nI (5 ^ i))), some (.inl (nI i)), s.1, s.2.1, none, none, none, none] [] s.2.2) (fun i s => eqo [56, 57, 58, 59] I1 s.2.2 ∧ ∀ i' k, i' < i → k < 5 → Rc A y i' k s.2.2) (fun q => ∃ K v5 v6, q = Rn (d + 6) q_M_findChoice 13 [some (.inr (12, 0)), some (.inl (nI y)), some (.inl (nI c)), some (.inl (nI (5 ^ A 0 0 4))), some (.inl (nI 0)), v5, v6, none, none, none, none] [] (mm_up K 12 0 32 (-nI 1)) ∧ eqo [12, 48, 49, 50, 51, 56, 57, 58, 59] I K ∧ ex12 7 I K ∧ RcA A y K) ?_ ?_ 0 (none, none, I1) (Nat.zero_le _) ⟨eqo_rf _ _, fun i' k h => absurd h (Nat.not_lt_zero _)⟩
  · rintro i ⟨v5, v6, K⟩ hi ⟨k1, k2⟩
    dsimp only at k1 k2 ⊢
    right
    have hR1 : RepR 0 A K := RepR_o hR (by rw [k1 47 (by decide), t2 47 (by decide)])
    have h4 : K 47 0 4 = nI (A 0 0 4) := hR1.1 4 (by decide)
    obtain ⟨K', a1, a2, a3, a4⟩ := s_fcRow d i y c (5 ^ i) v5 v6 none none none none A K hR1 g hi hy (fun p hp => by rw [k1 51 (by decide)]; exact t3 p hp)
    refine ⟨(some (.inl (nI (cpA A i))), some (.inl (nI 5)), K'), ⟨eqo_tr k1 a2, fun i' k h1 h2 => ?_⟩, ?_⟩
    · dsimp only
      by_cases z : i' = i
      · rw [z]; exact a3 k h2
      · exact Rc_c (k2 i' k (by omega) h2) (a4 _ (by omega)).1 (a4 _ (by omega)).2
    · dsimp only
      rw [e_M_findChoice_2, if_pos (by decide), show (4 : Int32).toInt.toNat = 4 from rfl, h4, if_pos (by rw [nlt (by omega) (by omega)]; exact hi), a1, e_M_findChoice_11, show nI i + (1 : Int32) = nI (i + 1) from nad i 1, show nI (5 ^ i) * (5 : Int32) = nI (5 ^ (i + 1)) from nml (5 ^ i) 5]
  · rintro ⟨v5, v6, K⟩ ⟨k1, k2⟩
    dsimp only at k1 k2 ⊢
    have hR1 : RepR 0 A K := RepR_o hR (by rw [k1 47 (by decide), t2 47 (by decide)])
    have h4 : K 47 0 4 = nI (A 0 0 4) := hR1.1 4 (by decide)
    refine ⟨K, v5, v6, ?_, eqo_tr (eqo_mono t2 (by decide)) (eqo_mono k1 (by decide)), fun j hj => by rw [k1 12 (by decide)]; exact t2' j hj, k2⟩
    rw [e_M_findChoice_2, if_pos (by decide), show (4 : Int32).toInt.toNat = 4 from rfl, h4, if_neg (by rw [nlt (by omega) (by omega)]; omega), e_M_findChoice_12]
    rfl
