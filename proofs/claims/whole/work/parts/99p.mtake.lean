/-! findChoice of the reference: what is taken. -/
def BC (m : Nat) : BT → mm_I → Prop
  | none, K => K 12 0 32 = -nI 1
  | some (w, p, q), K => ∃ cc, cc ≤ 15625 ∧ K 12 0 32 = nI cc ∧ q = dg2 m 0 (fun _ => 0) cc ∧ K 12 0 30 = zI w ∧ K 12 0 31 = nI p ∧ -100000000 ≤ w ∧ w ≤ 100000000 ∧ p ≤ 999999
def f32 (I K : mm_I) : Prop := eqo [12] I K ∧ ∀ s, s ≠ 30 → s ≠ 31 → s ≠ 32 → K 12 0 s = I 12 0 s
theorem s_fcTake (d m y c N x p : Nat) (w : Int) (v5 v8 v9 : Int32) (v10 : Option mm_V) (s : BT) (I K : mm_I) (hx : x ≤ 15625) (hw1 : -100000000 ≤ w) (hw2 : w ≤ 100000000) (hp : p ≤ c) (hc : c ≤ 999999) (hB : BC m s K) (hf : f32 I K) : ∃ K', Rn d q_M_findChoice 23 [some (.inr (12, 0)), some (.inl (nI y)), some (.inl (nI c)), some (.inl (nI N)), some (.inl (nI x)), some (.inl v5), some (.inl (zI w)), some (.inl (nI p)), some (.inl v8), some (.inl v9), v10] [] K = Rn d q_M_findChoice 28 [some (.inr (12, 0)), some (.inl (nI y)), some (.inl (nI c)), some (.inl (nI N)), some (.inl (nI x)), some (.inl v5), some (.inl (zI w)), some (.inl (nI p)), some (.inl v8), some (.inl v9), v10] [] K' ∧ f32 I K' ∧ BC m (tk2 c s w p (dg2 m 0 (fun _ => 0) x)) K' := by
  have e3 : eqo [12] K (mm_up (mm_up (mm_up K 12 0 32 (nI x)) 12 0 30 (zI w)) 12 0 31 (nI p)) := eqo_up (eqo_up (eqo_up (eqo_rf _ _) (by decide)) (by decide)) (by decide)
  have fK : f32 I (mm_up (mm_up (mm_up K 12 0 32 (nI x)) 12 0 30 (zI w)) 12 0 31 (nI p)) := ⟨eqo_tr hf.1 e3, fun s h1 h2 h3 => by rw [up_F (by omega), up_F (by omega), up_F (by omega)]; exact hf.2 s h1 h2 h3⟩
  have bK : BC m (some (w, p, dg2 m 0 (fun _ => 0) x)) (mm_up (mm_up (mm_up K 12 0 32 (nI x)) 12 0 30 (zI w)) 12 0 31 (nI p)) := ⟨x, hx, by rw [up_F (by omega), up_F (by omega), up_s], rfl, by rw [up_F (by omega), up_s], by rw [up_s], hw1, hw2, by omega⟩
  have tk : tk2 c s w p (dg2 m 0 (fun _ => 0) x) = if be2 w p s = true then some (w, p, dg2 m 0 (fun _ => 0) x) else s := by
    unfold tk2
    rw [decide_eq_true hp, Bool.true_and]
  rw [tk]
  cases s with
  | none =>
    have l : K 12 0 32 = -nI 1 := hB
    refine ⟨_, ?_, fK, bK⟩
    rw [e_M_findChoice_23, l, if_pos (by decide), e_M_findChoice_27]
  | some v =>
    obtain ⟨w', p', q⟩ := v
    obtain ⟨cc, c0, c1, c2, c3, c4, c5, c6, c7⟩ := hB
    have n0 : ¬ (nI cc < 0) := by rw [show (0 : Int32) = nI 0 from rfl, nlt (by omega) (by omega)]; omega
    have zl : (zI w' < zI w) = (w' < w) := zlt (by omega) (by omega) (by omega) (by omega)
    have ze : (zI w = zI w') = (w = w') := zeq (by omega) (by omega) (by omega) (by omega)
    have zp : (nI p < nI p') = (p < p') := nlt (by omega) (by omega)
    by_cases z1 : w' < w
    · rw [if_pos (by simp [be2, z1])]
      refine ⟨_, ?_, fK, bK⟩
      rw [e_M_findChoice_23, c1, if_neg n0, e_M_findChoice_24, c3, if_pos (by rw [zl]; exact z1), e_M_findChoice_27]
    · by_cases z2 : w = w'
      · by_cases z3 : p < p'
        · rw [if_pos (by simp [be2, z2, z3])]
          refine ⟨_, ?_, fK, bK⟩
          rw [e_M_findChoice_23, c1, if_neg n0, e_M_findChoice_24, c3, if_neg (by rw [zl]; exact z1), e_M_findChoice_25, c3, if_pos (by rw [ze]; exact z2), e_M_findChoice_26, c4, if_pos (by rw [zp]; exact z3), e_M_findChoice_27]
        · rw [if_neg (by simp [be2, z2, z3])]
          refine ⟨K, ?_, hf, ⟨cc, c0, c1, c2, c3, c4, c5, c6, c7⟩⟩
          rw [e_M_findChoice_23, c1, if_neg n0, e_M_findChoice_24, c3, if_neg (by rw [zl]; exact z1), e_M_findChoice_25, c3, if_pos (by rw [ze]; exact z2), e_M_findChoice_26, c4, if_neg (by rw [zp]; exact z3)]
      · rw [if_neg (by simp [be2, z1, z2])]
        refine ⟨K, ?_, hf, ⟨cc, c0, c1, c2, c3, c4, c5, c6, c7⟩⟩
        rw [e_M_findChoice_23, c1, if_neg n0, e_M_findChoice_24, c3, if_neg (by rw [zl]; exact z1), e_M_findChoice_25, c3, if_neg (by rw [ze]; exact z2)]
