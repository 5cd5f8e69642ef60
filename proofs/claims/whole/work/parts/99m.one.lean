/-! One offer. -/
def oF (k i : Nat) : Prop := (k = 8 ∧ i = 48) ∨ k = 39 ∨ k = 44 ∨ k = 20 ∨ k = 21 ∨ k = 200
theorem s_offOne (d i k y c : Nat) (A : mm_A) (K : mm_I) (hC : RepC 0 A K) (g : Good A) (hi : i < A 0 0 4) (hk1 : 1 ≤ k) (hk : k < 5) (hy : y ≤ 30) (h43 : ∀ p, p < A 0 0 0 → K 43 0 p = nI (bo A 99 p)) (h200 : K 200 0 (i * 5 + k) = nI 0) : ∃ K', Rn (d + 6) q_H_offerAll 7 [some (.inr (11, 0)), some (.inl (nI y)), some (.inl (nI c)), some (.inl (nI i)), some (.inl (nI (cpA A i))), some (.inl (nI (wbA A (cpA A i) 0 (bo A 99 (cpA A i)) y))), some (.inl (nI k))] [] K = Rn (d + 6) q_H_offerAll 7 [some (.inr (11, 0)), some (.inl (nI y)), some (.inl (nI c)), some (.inl (nI i)), some (.inl (nI (cpA A i))), some (.inl (nI (wbA A (cpA A i) 0 (bo A 99 (cpA A i)) y))), some (.inl (nI (k + 1)))] [] K' ∧ fr oF K K' ∧ K' 200 0 (i * 5 + k) = nI (b2 (cO A i k)) ∧ (cO A i k = true → K' 20 0 (i * 5 + k) = zI (cW A y i k) ∧ K' 21 0 (i * 5 + k) = nI (cP A i k)) ∧ ∀ j, j ≠ i * 5 + k → K' 200 0 j = K 200 0 j ∧ K' 20 0 j = K 20 0 j ∧ K' 21 0 j = K 21 0 j := by
  have hp := cpG g hi
  have h6 : A 0 0 4 ≤ 6 := g.2.1 2 (by decide)
  have hn := g.1.1
  have wb0 := wb_b g hp 0 (bo A 99 (cpA A i)) y
  have wbk := wb_b g hp k (bo A 99 (cpA A i)) y
  have pr := pr_n g hp (show k ≤ 4 by omega)
  have nk : nI k + (1 : Int32) = nI (k + 1) := nad k 1
  have hcond : i < A 0 0 4 ∧ 1 ≤ k ∧ k < 5 := ⟨hi, hk1, hk⟩
  obtain ⟨K1, a1, a2⟩ := s_H_ruled (d + 2) (cpA A i) 0 0 (nI k) A K hC g hp (by decide) (fun q => by cases q)
  have hC1 : RepC 0 A K1 := RepC_o hC g a2 (by decide)
  have b7 : Rn (d + 6) q_H_offerAll 7 [some (.inr (11, 0)), some (.inl (nI y)), some (.inl (nI c)), some (.inl (nI i)), some (.inl (nI (cpA A i))), some (.inl (nI (wbA A (cpA A i) 0 (bo A 99 (cpA A i)) y))), some (.inl (nI k))] [] K = Rn (d + 6) q_H_offerAll 9 [some (.inr (11, 0)), some (.inl (nI y)), some (.inl (nI c)), some (.inl (nI i)), some (.inl (nI (cpA A i))), some (.inl (nI (wbA A (cpA A i) 0 (bo A 99 (cpA A i)) y))), some (.inl (nI k))] [.inl (ruA A (cpA A i) 0 (nI k) 0)] K1 := by
    rw [e_H_offerAll_7, if_pos (by rw [show (5 : Int32) = nI 5 from rfl, nlt (by omega) (by omega)]; exact hk), e_H_offerAll_8, show (0 : Int32) = nI 0 from rfl, a1, bd_s, ct_s]
  by_cases z : ruA A (cpA A i) 0 (nI k) 0 = 0
  · have hO : cO A i k = false := by unfold cO; rw [if_pos hcond, z]; rfl
    refine ⟨K1, ?_, fun k' i' q => by rw [a2 k' (fun m => q (by unfold oF; simp at m; omega))], by rw [a2 200 (by decide), h200, hO]; rfl, fun q => absurd (hO.symm.trans q) (by decide), fun j _ => by rw [a2 200 (by decide), a2 20 (by decide), a2 21 (by decide)]; exact ⟨rfl, rfl, rfl⟩⟩
    rw [b7, e_H_offerAll_9, if_pos z, e_H_offerAll_10, e_H_offerAll_14, nk]
  · have hO : cO A i k = true := by unfold cO; rw [if_pos hcond]; exact decide_eq_true z
    obtain ⟨K2, b1, b2'⟩ := s_H_widthBehind (d + 2) (cpA A i) k y (bo A 99 (cpA A i)) A K1 hC1 g hp (by omega) hy (bo_b g _) g.1.2.2.2.2 (by rw [a2 43 (by decide)]; exact h43 _ hp)
    have hC2 : RepC 0 A K2 := RepC_fr hC1 g (fun k i q => b2' k i (by unfold hc at q; omega))
    obtain ⟨K3, c1, c2⟩ := s_H_ruled (d + 2) (cpA A i) 2 0 (nI k) A K2 hC2 g hp (by decide) (fun q => by cases q)
    rw [pr.1] at c1
    have of := s_chOffer (d + 5) i k (prN A (cpA A i) k) (nI (wbA A (cpA A i) 0 (bo A 99 (cpA A i)) y) - nI (wbA A (cpA A i) k (bo A 99 (cpA A i)) y)) K3 (by omega) hk
    have eq3 : ∀ k' i', ¬ ((k' = 8 ∧ i' = 48) ∨ k' = 39 ∨ k' = 44) → K3 k' i' = K k' i' := fun k' i' q => by rw [c2 k' (fun m => q (by simp at m; omega)), b2' k' i' (fun m => q (by omega)), a2 k' (fun m => q (by simp at m; omega))]
    refine ⟨mm_up (mm_up (mm_up K3 20 0 (i * 5 + k) (nI (wbA A (cpA A i) 0 (bo A 99 (cpA A i)) y) - nI (wbA A (cpA A i) k (bo A 99 (cpA A i)) y))) 21 0 (i * 5 + k) (nI (prN A (cpA A i) k))) 200 0 (i * 5 + k) (nI 1), ?_, ?_, ?_, ?_, ?_⟩
    · rw [b7, e_H_offerAll_9, if_neg z, e_H_offerAll_11, b1, bd_s, ct_s]
      refine (e_H_offerAll_12 (d + 6) (nI y) (nI c) (nI i) (nI (cpA A i)) _ (nI k) _ _ _ _ K2).trans ?_
      rw [show (2 : Int32) = nI 2 from rfl, c1, bd_s, ct_s]
      refine (e_H_offerAll_13 (d + 6) (nI y) (nI c) (nI i) (nI (cpA A i)) _ (nI k) _ _ _ _ K3).trans ?_
      rw [of, bd_s, ct_n]
      refine (e_H_offerAll_14 (d + 6) (nI y) (nI c) (nI i) (nI (cpA A i)) _ (nI k) _).trans ?_
      rw [nk]
    · intro k' i' q
      have q' : ¬ ((k' = 8 ∧ i' = 48) ∨ k' = 39 ∨ k' = 44) := fun m => q (by unfold oF; omega)
      have q2 : k' ≠ 20 ∧ k' ≠ 21 ∧ k' ≠ 200 := ⟨fun m => q (by unfold oF; omega), fun m => q (by unfold oF; omega), fun m => q (by unfold oF; omega)⟩
      funext j
      rw [up_F (by omega), up_F (by omega), up_F (by omega), eq3 k' i' q']
    · rw [up_s, hO]; rfl
    · intro _
      unfold cW cP
      rw [if_pos hcond, if_pos hcond]
      exact ⟨by rw [up_F (by omega), up_F (by omega), up_s, zsb (by omega) (by omega)], by rw [up_F (by omega), up_s]⟩
    · intro j hj
      exact ⟨by rw [up_F (by omega), up_F (by omega), up_F (by omega), eq3 200 0 (by omega)], by rw [up_F (by omega), up_F (by omega), up_F (by omega), eq3 20 0 (by omega)], by rw [up_F (by omega), up_F (by omega), up_F (by omega), eq3 21 0 (by omega)]⟩
