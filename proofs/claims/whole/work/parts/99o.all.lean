/-! All offers of the class. -/
theorem s_offerAll (d y c : Nat) (A : mm_A) (I : mm_I) (hC : RepC 0 A I) (F : Fix I) (g : Good A) (hy : y ≤ 30) : ∃ I', Sn (d + 7) q_H_offerAll [.inr (11, 0), .inl (nI y), .inl (nI c)] I = some (none, (sh0, I')) ∧ fr dC I I' ∧ RepC 0 A I' ∧ Fix I' ∧ CM0 (A 0 0 4) (cO A) (cW A y) (cP A) c I' := by
  have h6 : A 0 0 4 ≤ 6 := g.2.1 2 (by decide)
  have hn := g.1.1
  obtain ⟨I1, t1, t2, t3⟩ := s_Walk_tread (d + 2) 0 99 (-nI 1000000005) A I hC F (by decide) g hzN
  have hC1 := RepC_o hC g t2 (by decide)
  have hm1 : I1 7 2 3 = nI (A 0 0 4) := c0_mn hC1 (t := 2) (by decide)
  obtain ⟨I2, b1, b2', b3, b4, b5⟩ := s_chBegin (d + 5) (A 0 0 4) c I1 h6
  have hC2 := RepC_o hC1 g b2' (by decide)
  have F2 := Fix_e (Fix_e F t2 (by decide)) b2' (by decide)
  have f2 : fr dC I I2 := fr_tr (dC_wk t2) (fr_eqo b2' (fun k q i => by simp at q; unfold dC; omega))
  have st : Sn (d + 7) q_H_offerAll [.inr (11, 0), .inl (nI y), .inl (nI c)] I = Rn (d + 6) q_H_offerAll 3 [some (.inr (11, 0)), some (.inl (nI y)), some (.inl (nI c)), some (.inl (nI 0)), none, none, none] [] I2 := by
    rw [n_H_offerAll, e_H_offerAll_0, show (-1000000005 : Int32) = -nI 1000000005 from rfl, t1, bd_s, ct_n]
    refine (e_H_offerAll_1 (d + 6) (nI y) (nI c) none none none none I1).trans ?_
    rw [show 7 * 0 + 2 = 2 from rfl, hm1, b1, bd_s, ct_n]
    exact e_H_offerAll_2 (d + 6) (nI y) (nI c) none none none none I2
  rw [st]
  refine lpX (n := A 0 0 4) (σ := Option mm_V × Option mm_V × Option mm_V × mm_I) (fun i s => Rn (d + 6) q_H_offerAll 3 [some (.inr (11, 0)), some (.inl (nI y)), some (.inl (nI c)), some (.inl (nI i)), s.1, s.2.1, s.2.2.1] [] s.2.2.2) (fun i s => fr oF I2 s.2.2.2 ∧ (∀ i' k, i' < i → k < 5 → Dn A y i' k s.2.2.2) ∧ ∀ i' k, i ≤ i' → i' < A 0 0 4 → k < 5 → Un i' k s.2.2.2) (fun q => ∃ I', q = some (none, (sh0, I')) ∧ fr dC I I' ∧ RepC 0 A I' ∧ Fix I' ∧ CM0 (A 0 0 4) (cO A) (cW A y) (cP A) c I') ?_ ?_ 0 (none, none, none, I2) (Nat.zero_le _) ⟨fr_rf _ _, fun i' k h => absurd h (Nat.not_lt_zero _), fun i' k _ h1 h2 => ?_⟩
  · rintro i ⟨v4, v5, v6, K⟩ hi ⟨k1, k2, k3⟩
    dsimp only at k1 k2 k3 ⊢
    right
    have hC3 : RepC 0 A K := RepC_fr hC2 g (fun k i q => k1 k i (by unfold oF; unfold hc at q; omega))
    have F3 : Fix K := Fix_o F2 (fun r j _ => by rw [k1 7 r (by unfold oF; omega)])
    have h43 : ∀ p, p < A 0 0 0 → K 43 0 p = nI (bo A 99 p) := fun p hp => by rw [k1 43 0 (by unfold oF; omega), b2' 43 (by decide)]; exact t3 p (by omega)
    have hm3 : K 7 2 3 = nI (A 0 0 4) := c0_mn hC3 (t := 2) (by decide)
    have a0 := s_at0 (d + 4) 2 i 0 A K hC3 F3 g (by decide) hi (by decide)
    have hp := cpG g hi
    obtain ⟨K1, w1, w2⟩ := s_H_widthBehind (d + 2) (cpA A i) 0 y (bo A 99 (cpA A i)) A K hC3 g hp (by decide) hy (bo_b g _) g.1.2.2.2.2 (h43 _ hp)
    have e1 : fr oF K K1 := fun k i q => w2 k i (fun m => q (by unfold oF; omega))
    have ce : ∀ j, ceq j K K1 := fun j => ⟨by rw [w2 200 0 (by omega)], by rw [w2 20 0 (by omega)], by rw [w2 21 0 (by omega)]⟩
    have hC4 : RepC 0 A K1 := RepC_fr hC3 g (fun k i q => e1 k i (by unfold oF; unfold hc at q; omega))
    obtain ⟨K2, o1, o2, o3, o4⟩ := s_offRow d i y c A K1 hC4 g hi hy (fun p hp => by rw [e1 43 0 (by unfold oF; omega)]; exact h43 p hp) (fun k hk => Un_c (k3 i k (Nat.le_refl _) hi hk) (ce _))
    refine ⟨(some (.inl (nI (cpA A i))), some (.inl (nI (wbA A (cpA A i) 0 (bo A 99 (cpA A i)) y))), some (.inl (nI 5)), K2), ⟨fr_tr k1 (fr_tr e1 o2), fun i' k h1 h2 => ?_, fun i' k h1 h2 h3 => ?_⟩, ?_⟩
    · by_cases z : i' = i
      · rw [z]; exact o3 k h2
      · exact Dn_c (Dn_c (k2 i' k (by omega) h2) (ce _)) (o4 _ (by omega))
    · exact Un_c (Un_c (k3 i' k (by omega) h2 h3) (ce _)) (o4 _ (by omega))
    · dsimp only
      rw [e_H_offerAll_3, show 7 * 0 + 2 = 2 from rfl, hm3, if_pos (by rw [nlt (by omega) (by omega)]; exact hi), e_H_offerAll_4, show (0 : Int32) = nI 0 from rfl, show 7 * 0 + 2 = 2 from rfl, a0, bd_s, ct_s]
      refine (e_H_offerAll_5 (d + 6) (nI y) (nI c) (nI i) v4 v5 v6 (nI (cpA A i)) K).trans ?_
      rw [show (0 : Int32) = nI 0 from rfl, w1, bd_s, ct_s]
      refine (e_H_offerAll_6 (d + 6) (nI y) (nI c) (nI i) (nI (cpA A i)) v5 v6 _ K1).trans ?_
      refine (show _ = _ from o1).trans ?_
      rw [e_H_offerAll_15, show nI i + (1 : Int32) = nI (i + 1) from nad i 1]
  · rintro ⟨v4, v5, v6, K⟩ ⟨k1, k2, k3⟩
    dsimp only at k1 k2 k3 ⊢
    have hC3 : RepC 0 A K := RepC_fr hC2 g (fun k i q => k1 k i (by unfold oF; unfold hc at q; omega))
    have hm3 : K 7 2 3 = nI (A 0 0 4) := c0_mn hC3 (t := 2) (by decide)
    refine ⟨K, ?_, fr_tr f2 (fun k i q => k1 k i (fun m => q (by unfold oF at m; unfold dC; omega))), hC3, Fix_o F2 (fun r j _ => by rw [k1 7 r (by unfold oF; omega)]), by rw [k1 0 0 (by unfold oF; omega)]; exact b3, by rw [k1 0 0 (by unfold oF; omega)]; exact b4, fun i k hi hk => (k2 i k hi hk).1, fun i k hi hk z => (k2 i k hi hk).2 z⟩
    rw [e_H_offerAll_3, show 7 * 0 + 2 = 2 from rfl, hm3, if_neg (by rw [nlt (by omega) (by omega)]; omega), e_H_offerAll_16]
  · obtain ⟨x1, x2, x3⟩ := b5 (i' * 5 + k) (by omega)
    exact ⟨by dsimp only; rw [x3]; congr 2; exact decide_eq_decide.mpr (by omega), x1, x2⟩
