/-! The offers of the class. -/
def cpA (A : mm_A) (i : Nat) : Nat := A 6 i 0
noncomputable def cO (A : mm_A) (i k : Nat) : Bool := if i < A 0 0 4 ∧ 1 ≤ k ∧ k < 5 then decide (ruA A (cpA A i) 0 (nI k) 0 ≠ 0) else decide (k = 0)
noncomputable def cW (A : mm_A) (y i k : Nat) : Int := if i < A 0 0 4 ∧ 1 ≤ k ∧ k < 5 then (wbA A (cpA A i) 0 (bo A 99 (cpA A i)) y : Int) - wbA A (cpA A i) k (bo A 99 (cpA A i)) y else 0
noncomputable def cP (A : mm_A) (i k : Nat) : Nat := if i < A 0 0 4 ∧ 1 ≤ k ∧ k < 5 then prN A (cpA A i) k else 0
theorem cpG {A : mm_A} (g : Good A) {i : Nat} (h : i < A 0 0 4) : cpA A i < A 0 0 0 := g.2.2.2.2.2.2.2.1 i h
theorem wb_b {A : mm_A} (g : Good A) {p : Nat} (hp : p < A 0 0 0) (k b n : Nat) : wbA A p k b n ≤ 9999 := by
  obtain ⟨-, -, -, -, -, -, -, h1, h2, -⟩ := g.2.2.1 p hp
  have h3 := mn_b h1
  unfold wbA
  split
  · exact (wyN_b h1 h2 n).2
  · exact (wyN_b h3.1 (by omega) n).2
theorem cW_b {A : mm_A} (g : Good A) (y i k : Nat) : -9999 ≤ cW A y i k ∧ cW A y i k ≤ 9999 := by
  unfold cW
  split
  · rename_i h
    have h1 := wb_b g (cpG g h.1) 0 (bo A 99 (cpA A i)) y
    have h2 := wb_b g (cpG g h.1) k (bo A 99 (cpA A i)) y
    omega
  · omega
theorem cP_b {A : mm_A} (g : Good A) (i k : Nat) : cP A i k ≤ 99999 := by
  unfold cP
  split
  · rename_i h
    exact (pr_n g (cpG g h.1) (by omega)).2
  · omega
theorem cO_0 (A : mm_A) (i : Nat) : cO A i 0 = true ∧ cP A i 0 = 0 := by
  unfold cO cP
  rw [if_neg (by omega), if_neg (by omega)]
  exact ⟨rfl, rfl⟩
theorem cW_0 (A : mm_A) (y i : Nat) : cW A y i 0 = 0 := by
  unfold cW
  rw [if_neg (by omega)]
theorem s_chBegin (d m c : Nat) (I : mm_I) (hm : m ≤ 6) : ∃ I', Sn (d + 1) q_Choice_begin [.inr (0, 0), .inl (nI m), .inl (nI c)] I = some (none, (sh0, I')) ∧ eqo [0, 20, 21, 200] I I' ∧ I' 0 0 6 = nI m ∧ I' 0 0 7 = nI c ∧ ∀ j, j < 30 → I' 20 0 j = nI 0 ∧ I' 21 0 j = nI 0 ∧ I' 200 0 j = nI (b2 (decide (j % 5 = 0))) := by
  have k0 : Sn (d + 1) q_Choice_begin [.inr (0, 0), .inl (nI m), .inl (nI c)] I = Rn d q_Choice_begin 1 [some (.inr (0, 0)), some (.inl (nI m)), some (.inl (nI c)), some (.inl (nI 0))] [] (mm_up (mm_up I 0 0 6 (nI m)) 0 0 7 (nI c)) := by
    rw [n_Choice_begin, e_Choice_begin_0]
    by_cases z : m = 6
    · rw [z]; rfl
    · rw [if_neg (by rw [show (6 : Int32) = nI 6 from rfl, nle (by omega) (by omega)]; omega)]; rfl
  rw [k0]
  refine lpX (n := 30) (σ := mm_I) (fun j K => Rn d q_Choice_begin 1 [some (.inr (0, 0)), some (.inl (nI m)), some (.inl (nI c)), some (.inl (nI j))] [] K) (fun j K => eqo [0, 20, 21, 200] I K ∧ K 0 0 6 = nI m ∧ K 0 0 7 = nI c ∧ ∀ i, i < j → K 20 0 i = nI 0 ∧ K 21 0 i = nI 0 ∧ K 200 0 i = nI (b2 (decide (i % 5 = 0)))) (fun q => ∃ I', q = some (none, (sh0, I')) ∧ eqo [0, 20, 21, 200] I I' ∧ I' 0 0 6 = nI m ∧ I' 0 0 7 = nI c ∧ ∀ j, j < 30 → I' 20 0 j = nI 0 ∧ I' 21 0 j = nI 0 ∧ I' 200 0 j = nI (b2 (decide (j % 5 = 0)))) ?_ ?_ 0 (mm_up (mm_up I 0 0 6 (nI m)) 0 0 7 (nI c)) (Nat.zero_le _) ⟨eqo_up (eqo_up (eqo_rf _ _) (by decide)) (by decide), by rw [up_F (by omega), up_s], by rw [up_s], fun i hi => absurd hi (Nat.not_lt_zero _)⟩
  · rintro j K hj ⟨k1, k2, k3, k4⟩
    right
    have t1 : 0 ≤ (nI j).toInt ∧ (nI j).toInt < ((30 : Nat) : Int) := by rw [nI_toInt (by omega)]; omega
    have e1 : nI j - nI j / (5 : Int32) * 5 = nI (j % 5) := by
      rw [show (5 : Int32) = nI 5 from rfl, ndv (by omega) (by omega) (by omega), nml, nsb (by omega), show j - j / 5 * 5 = j % 5 by omega]
    refine ⟨mm_up (mm_up (mm_up K 20 0 j (nI 0)) 21 0 j (nI 0)) 200 0 j (nI (b2 (decide (j % 5 = 0)))), ⟨eqo_up (eqo_up (eqo_up k1 (by decide)) (by decide)) (by decide), by rw [up_F (by omega), up_F (by omega), up_F (by omega)]; exact k2, by rw [up_F (by omega), up_F (by omega), up_F (by omega)]; exact k3, fun i hi => ?_⟩, ?_⟩
    · by_cases z : i = j
      · rw [z]
        exact ⟨by rw [up_F (by omega), up_F (by omega), up_s], by rw [up_F (by omega), up_s], by rw [up_s]⟩
      · obtain ⟨a, b, c'⟩ := k4 i (by omega)
        exact ⟨by rw [up_F (by omega), up_F (by omega), up_F (by omega)]; exact a, by rw [up_F (by omega), up_F (by omega), up_F (by omega)]; exact b, by rw [up_F (by omega), up_F (by omega), up_F (by omega)]; exact c'⟩
    · rw [e_Choice_begin_1, if_pos (by rw [show (30 : Int32) = nI 30 from rfl, nlt (by omega) (by omega)]; exact hj), e_Choice_begin_2, if_pos t1, if_pos t1, if_neg (by decide), e1, nN (by omega), e_Choice_begin_3, e_Choice_begin_4, e_Choice_begin_5, e_Choice_begin_5, if_pos t1, if_pos t1, nN (by omega), show nI j + (1 : Int32) = nI (j + 1) from nad j 1]
      by_cases z : j % 5 = 0
      · rw [z]; rfl
      · rw [if_neg (by rw [show (0 : Int32) = nI 0 from rfl, neq (by omega) (by omega)]; exact z), decide_eq_false z]; rfl
  · rintro K ⟨k1, k2, k3, k4⟩
    refine ⟨K, ?_, k1, k2, k3, k4⟩
    rw [e_Choice_begin_1, if_neg (by decide), e_Choice_begin_6]
theorem s_chOffer (d i k p : Nat) (w : Int32) (I : mm_I) (hi : i < 6) (hk : k < 5) : Sn (d + 1) q_Choice_offer [.inr (0, 0), .inl (nI i), .inl (nI k), .inl w, .inl (nI p)] I = some (none, (sh0, mm_up (mm_up (mm_up I 20 0 (i * 5 + k) w) 21 0 (i * 5 + k) (nI p)) 200 0 (i * 5 + k) (nI 1))) := by
  have t1 : 0 ≤ (nI (i * 5 + k)).toInt ∧ (nI (i * 5 + k)).toInt < ((30 : Nat) : Int) := by rw [nI_toInt (by omega)]; omega
  have ix : nI i * (5 : Int32) + nI k = nI (i * 5 + k) := by rw [show (5 : Int32) = nI 5 from rfl, nml, nad]
  rw [n_Choice_offer, e_Choice_offer_0, ix, if_neg (by rw [show (0 : Int32) = nI 0 from rfl, nlt (by omega) (by omega)]; omega), e_Choice_offer_1, if_pos (by rw [show (30 : Int32) = nI 30 from rfl, nlt (by omega) (by omega)]; omega), e_Choice_offer_3, if_pos t1, if_pos t1, if_pos t1, nN (by omega)]
  rfl
