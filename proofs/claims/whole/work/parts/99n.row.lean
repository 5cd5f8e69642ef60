/-! The offers of one chosen stretch. -/
def Dn (A : mm_A) (y i k : Nat) (K : mm_I) : Prop := K 200 0 (i * 5 + k) = nI (b2 (cO A i k)) ∧ (cO A i k = true → K 20 0 (i * 5 + k) = zI (cW A y i k) ∧ K 21 0 (i * 5 + k) = nI (cP A i k))
def Un (i k : Nat) (K : mm_I) : Prop := K 200 0 (i * 5 + k) = nI (b2 (decide (k = 0))) ∧ K 20 0 (i * 5 + k) = nI 0 ∧ K 21 0 (i * 5 + k) = nI 0
def ceq (j : Nat) (K K' : mm_I) : Prop := K' 200 0 j = K 200 0 j ∧ K' 20 0 j = K 20 0 j ∧ K' 21 0 j = K 21 0 j
theorem Dn_c {A : mm_A} {y i k : Nat} {K K' : mm_I} (h : Dn A y i k K) (e : ceq (i * 5 + k) K K') : Dn A y i k K' := by unfold Dn; rw [e.1, e.2.1, e.2.2]; exact h
theorem Un_c {i k : Nat} {K K' : mm_I} (h : Un i k K) (e : ceq (i * 5 + k) K K') : Un i k K' := by unfold Un; rw [e.1, e.2.1, e.2.2]; exact h
theorem Un_0 {A : mm_A} {y i : Nat} {K : mm_I} (h : Un i 0 K) : Dn A y i 0 K := by
  unfold Dn
  rw [(cO_0 A i).1, (cO_0 A i).2, cW_0]
  exact ⟨h.1, fun _ => ⟨h.2.1, h.2.2⟩⟩
theorem s_offRow (d i y c : Nat) (A : mm_A) (K : mm_I) (hC : RepC 0 A K) (g : Good A) (hi : i < A 0 0 4) (hy : y ≤ 30) (h43 : ∀ p, p < A 0 0 0 → K 43 0 p = nI (bo A 99 p)) (hU : ∀ k, k < 5 → Un i k K) : ∃ K', Rn (d + 6) q_H_offerAll 7 [some (.inr (11, 0)), some (.inl (nI y)), some (.inl (nI c)), some (.inl (nI i)), some (.inl (nI (cpA A i))), some (.inl (nI (wbA A (cpA A i) 0 (bo A 99 (cpA A i)) y))), some (.inl (nI 1))] [] K = Rn (d + 6) q_H_offerAll 15 [some (.inr (11, 0)), some (.inl (nI y)), some (.inl (nI c)), some (.inl (nI i)), some (.inl (nI (cpA A i))), some (.inl (nI (wbA A (cpA A i) 0 (bo A 99 (cpA A i)) y))), some (.inl (nI 5))] [] K' ∧ fr oF K K' ∧ (∀ k, k < 5 → Dn A y i k K') ∧ ∀ j, ¬ (i * 5 ≤ j ∧ j < i * 5 + 5) → ceq j K K' := by
  refine lpX (n := 5) (σ := mm_I) (fun k L => Rn (d + 6) q_H_offerAll 7 [some (.inr (11, 0)), some (.inl (nI y)), some (.inl (nI c)), some (.inl (nI i)), some (.inl (nI (cpA A i))), some (.inl (nI (wbA A (cpA A i) 0 (bo A 99 (cpA A i)) y))), some (.inl (nI k))] [] L) (fun k L => 1 ≤ k ∧ fr oF K L ∧ (∀ k', k' < k → Dn A y i k' L) ∧ (∀ k', k ≤ k' → k' < 5 → Un i k' L) ∧ ∀ j, ¬ (i * 5 ≤ j ∧ j < i * 5 + 5) → ceq j K L) (fun q => ∃ K', q = Rn (d + 6) q_H_offerAll 15 [some (.inr (11, 0)), some (.inl (nI y)), some (.inl (nI c)), some (.inl (nI i)), some (.inl (nI (cpA A i))), some (.inl (nI (wbA A (cpA A i) 0 (bo A 99 (cpA A i)) y))), some (.inl (nI 5))] [] K' ∧ fr oF K K' ∧ (∀ k, k < 5 → Dn A y i k K') ∧ ∀ j, ¬ (i * 5 ≤ j ∧ j < i * 5 + 5) → ceq j K K') ?_ ?_ 1 K (by decide) ⟨Nat.le_refl _, fr_rf _ _, fun k' hk' => by rw [show k' = 0 by omega]; exact Un_0 (hU 0 (by decide)), fun k' _ h => hU k' h, fun _ _ => ⟨rfl, rfl, rfl⟩⟩
  · rintro k L hk ⟨l0, l1, l2, l3, l4⟩
    right
    have hC1 : RepC 0 A L := RepC_fr hC g (fun k i q => l1 k i (by unfold oF; unfold hc at q; omega))
    have u := l3 k (Nat.le_refl _) hk
    obtain ⟨L', a1, a2, a3, a4, a5⟩ := s_offOne d i k y c A L hC1 g hi l0 hk hy (fun p hp => by rw [l1 43 0 (by unfold oF; omega)]; exact h43 p hp) (by rw [u.1, decide_eq_false (by omega)]; rfl)
    refine ⟨L', ⟨by omega, fr_tr l1 a2, fun k' hk' => ?_, fun k' h1 h2 => Un_c (l3 k' (by omega) h2) (a5 _ (by omega)), fun j hj => ?_⟩, a1⟩
    · by_cases z : k' = k
      · rw [z]; exact ⟨a3, a4⟩
      · exact Dn_c (l2 k' (by omega)) (a5 _ (by omega))
    · have e1 := l4 j hj
      have e2 := a5 j (by omega)
      exact ⟨e2.1.trans e1.1, e2.2.1.trans e1.2.1, e2.2.2.trans e1.2.2⟩
  · rintro L ⟨l0, l1, l2, l3, l4⟩
    refine ⟨L, ?_, l1, l2, l4⟩
    rw [e_H_offerAll_7, if_neg (by decide)]
