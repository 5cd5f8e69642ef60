/-! roster, the call. -/
noncomputable def ansR (A : mm_A) (x : Int32) : Int32 := match rsA A with
  | none => 0
  | some (m, d, q) => if x = -2 then nI m else if x = -1 then nI d else enc (q x.toInt.toNat)
theorem w25 {x : Int32} (h : -2 ≤ x ∧ x ≤ 5) : x = -2 ∨ x = -1 ∨ ∃ k, k < 6 ∧ x = nI k := by
  rw [Int32.le_iff_toInt_le, Int32.le_iff_toInt_le, show (-2 : Int32).toInt = -2 from rfl, show (5 : Int32).toInt = 5 from rfl] at h
  by_cases z : x.toInt = -2
  · exact Or.inl (Int32.toInt_inj.mp z)
  · by_cases z2 : x.toInt = -1
    · exact Or.inr (Or.inl (Int32.toInt_inj.mp z2))
    · refine Or.inr (Or.inr ⟨x.toInt.toNat, by omega, Int32.toInt_inj.mp ?_⟩)
      rw [nI_toInt (by omega)]
      omega
theorem s_roDig (d k J c : Nat) (K : mm_I) (hJ : J ≤ 4) (hk : k < 6) (hc : c ≤ 15625) (h8 : K 47 0 8 = nI J) : Rn d q_M_roster 10 [some (.inr (12, 0)), some (.inl (nI k)), some (.inl (nI c)), some (.inl (nI 5))] [] K = some (some (.inl (enc (dgs (J + 1) 0 (fun _ => 0) c k))), (sh0, K)) := by
  have e0 : nI J + (1 : Int32) = nI (J + 1) := nad J 1
  have e4 : ¬ (nI (J + 1) = 0) := by rw [show (0 : Int32) = nI 0 from rfl, neq (by omega) (by omega)]; omega
  have key := lpX (n := 5 - k) (σ := Unit) (fun i _ => Rn d q_M_roster 10 [some (.inr (12, 0)), some (.inl (nI k)), some (.inl (nI (c / (J + 1) ^ i))), some (.inl (nI (5 - i)))] [] K) (fun _ _ => True) (fun q => q = some (some (.inl (enc (dgs (J + 1) 0 (fun _ => 0) c k))), (sh0, K))) (fun i _ hi _ => Or.inr ⟨(), trivial, ?_⟩) (fun _ _ => ?_) 0 () (Nat.zero_le _) trivial
  · rw [Nat.pow_zero, Nat.div_one] at key
    exact key
  · have b1 : c / (J + 1) ^ i ≤ c := Nat.div_le_self _ _
    have e1 : nI (c / (J + 1) ^ i) / nI (J + 1) = nI (c / (J + 1) ^ i / (J + 1)) := ndv (by omega) (by omega) (by omega)
    have e2 : nI (5 - i) + (-1 : Int32) = nI (5 - (i + 1)) := by
      rw [show 5 - (i + 1) = 5 - i - 1 by omega]
      exact nmn (b := 1) (by omega)
    rw [e_M_roster_10, if_pos (by rw [nlt (by omega) (by omega)]; omega), e_M_roster_11, if_pos (by decide), show (8 : Int32).toInt.toNat = 8 from rfl, h8, e0, if_neg e4, e1, e2, Nat.div_div_eq_div_mul, ← Nat.pow_succ]
  · have b1 : c / (J + 1) ^ (5 - k) ≤ c := Nat.div_le_self _ _
    have b2 : c / (J + 1) ^ (5 - k) / (J + 1) * (J + 1) ≤ c / (J + 1) ^ (5 - k) := Nat.div_mul_le_self _ _
    have b3 : c / (J + 1) ^ (5 - k) % (J + 1) < J + 1 := Nat.mod_lt _ (by omega)
    have dg : dgs (J + 1) 0 (fun _ => 0) c k = c / (J + 1) ^ (5 - k) % (J + 1) := by
      unfold dgs
      rw [if_pos (by omega)]
    rw [dg]
    generalize c / (J + 1) ^ (5 - k) = a at b1 b2 b3 ⊢
    have e1 : nI a / nI (J + 1) = nI (a / (J + 1)) := ndv (by omega) (by omega) (by omega)
    have e2 : nI a - nI (a / (J + 1)) * nI (J + 1) = nI (a % (J + 1)) := by rw [nml, nsb b2, md_s]
    rw [e_M_roster_10, if_neg (by rw [nlt (by omega) (by omega)]; omega), e_M_roster_12, if_pos (by decide), show (8 : Int32).toInt.toNat = 8 from rfl, h8, e0, if_neg e4, e1, e2]
    by_cases z : a % (J + 1) = 0
    · rw [z, if_pos (show nI 0 = (0 : Int32) from rfl), e_M_roster_13, e_M_roster_15]
      rfl
    · rw [if_neg (by rw [show (0 : Int32) = nI 0 from rfl, neq (by omega) (by omega)]; exact z), e_M_roster_14, e_M_roster_15]
      unfold enc
      rw [if_neg z, show (1 : Int32) = nI 1 from rfl, nsb (by omega)]
theorem Ok_roster (d : Nat) (x : Int32) : Ok (d + 200) q_H_roster q_M_roster [.inl x] := by
  by_cases h : -2 ≤ x ∧ x ≤ 5
  rotate_left
  · refine call_id (fun _ => -nI 1000000001) (fun A I _ _ _ _ => ?_) (fun A I hR _ _ _ => ?_)
    · rw [n_H_roster, e_H_roster_0, s_H_within, if_neg h, bd_s, ct_s]
      refine (e_H_roster_1 (d + 199) x 0 I).trans ?_
      rw [if_pos rfl, e_H_roster_2]
      rfl
    · rw [n_M_roster, e_M_roster_0, s_M_in, if_neg h, bd_s, ct_s]
      refine (e_M_roster_1 (d + 199) x none none 0 I).trans ?_
      rw [if_pos rfl, e_M_roster_2]
      rfl
  refine call_hill (fun A => ansR A x) (fun A => A) (fun A I hC F g hy => ?_) (fun A I hR g hy h8 => ?_) (fun A g h => ⟨g, h, rfl⟩)
  · obtain ⟨I', p1, p2, p3⟩ := s_findBest (d + 190) A I hC F g
    obtain ⟨m, dd, q, hs⟩ := rs_some A
    rw [hs] at p3
    obtain ⟨l1, l2, -, -, l3⟩ := p3
    refine ⟨I', ?_, RepC_o hC g p2 (by decide), Fix_e F p2 (by decide), fr_eqo p2 (fun k q i => by simp at q; unfold dC; omega)⟩
    unfold ansR
    rw [hs]
    dsimp only
    rw [n_H_roster, e_H_roster_0, s_H_within, if_pos h, bd_s, ct_s]
    refine (e_H_roster_1 (d + 199) x 1 I).trans ?_
    rw [if_neg (by decide), e_H_roster_3, p1, bd_s, ct_n]
    refine (e_H_roster_4 (d + 199) x I').trans ?_
    rcases w25 h with e | e | ⟨k, hk, e⟩
    · subst e
      rw [if_pos rfl, e_H_roster_5, l1, if_pos rfl]
    · subst e
      rw [if_neg (by decide), e_H_roster_6, if_pos rfl, e_H_roster_7, l2, if_neg (by decide), if_pos rfl]
    · subst e
      have n2 : ¬ (nI k = -2) := by
        have := ngE (p := k) (m := 2) (by omega) (by decide) (by decide)
        exact fun z => this.mp z
      have n1 : ¬ (nI k = -1) := by
        have := ngE (p := k) (m := 1) (by omega) (by decide) (by decide)
        exact fun z => this.mp z
      rw [if_neg n2, e_H_roster_6, if_neg n1, e_H_roster_8, if_pos (by rw [nI_toInt (by omega)]; omega), nN (by omega), l3 k hk, if_neg n2, if_neg n1]
  · obtain ⟨I', p1, p2, p3⟩ := s_M_findRoster (d + 195) A I hR g
    have hJ : A 0 0 8 ≤ 4 := g.2.1 6 (by decide)
    have hR' : RepR 0 A I' := RepR_o hR (by rw [p2.1 47 (by decide)])
    obtain ⟨m, dd, q, hs⟩ := rs_some A
    rw [hs] at p3
    obtain ⟨c, c0, c1, c2, c3, c4, -, -⟩ := p3
    refine ⟨I', ?_, hR', fr_eqo p2.1 (fun k q i => by simp at q; unfold dM'; omega), ⟨p2.2 3 (by decide) (by decide) (by decide), p2.2 8 (by decide) (by decide) (by decide), p2.2 11 (by decide) (by decide) (by decide), p2.2 47 (by decide) (by decide) (by decide)⟩⟩
    unfold ansR
    rw [hs]
    dsimp only
    rw [n_M_roster, e_M_roster_0, s_M_in, if_pos h, bd_s, ct_s]
    refine (e_M_roster_1 (d + 199) x none none 1 I).trans ?_
    rw [if_neg (by decide), e_M_roster_3, p1, bd_s, ct_n]
    refine (e_M_roster_4 (d + 199) x none none I').trans ?_
    rcases w25 h with e | e | ⟨k, hk, e⟩
    · subst e
      rw [if_pos (by decide), e_M_roster_5, if_pos rfl, e_M_roster_6, e_M_roster_8, c3, if_pos rfl]
    · subst e
      rw [if_pos (by decide), e_M_roster_5, if_neg (by decide), e_M_roster_7, e_M_roster_8, c4, if_neg (by decide), if_pos rfl]
    · subst e
      have n2 : ¬ (nI k = -2) := by
        have := ngE (p := k) (m := 2) (by omega) (by decide) (by decide)
        exact fun z => this.mp z
      have n1 : ¬ (nI k = -1) := by
        have := ngE (p := k) (m := 1) (by omega) (by decide) (by decide)
        exact fun z => this.mp z
      rw [if_neg (by rw [show (0 : Int32) = nI 0 from rfl, nlt (by omega) (by omega)]; omega), e_M_roster_9, c1, if_neg n2, if_neg n1, nN (by omega), c2]
      exact s_roDig (d + 199) k (A 0 0 8) c I' hJ hk c0 (hR'.1 8 (by decide))
