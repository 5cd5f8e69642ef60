/-! The roster of the reference: tries, and what a try is worth. -/
theorem md_s (a J : Nat) : a - a / (J + 1) * (J + 1) = a % (J + 1) := by
  have := Nat.div_add_mod a (J + 1)
  rw [Nat.mul_comm] at this
  omega
theorem s_tr5 (d x a w J u gg : Nat) (v : Option mm_V) (K : mm_I) (hJ : J ≤ 4) (ha : a ≤ 15625) (hw : w < 6) (h8 : K 47 0 8 = nI J) (h63 : K 63 0 (a % (J + 1)) = nI u) (h62 : K 62 0 (5 * w + a % (J + 1)) = nI gg) (hu : u ≤ 1000) (hg : gg ≤ 20) : Rn d q_M_tries 5 [some (.inr (12, 0)), some (.inl (nI x)), some (.inl (nI a)), some (.inl (nI w)), v] [] K = Rn d q_M_tries 4 [some (.inr (12, 0)), some (.inl (nI x)), some (.inl (nI (a / (J + 1)))), some (.inl (nI w + -nI 1)), some (.inl (nI (a % (J + 1))))] [] (mm_up K 63 0 (a % (J + 1)) (nI (u + gg))) := by
  have b1 : a / (J + 1) ≤ a := Nat.div_le_self _ _
  have b2 : a / (J + 1) * (J + 1) ≤ a := Nat.div_mul_le_self _ _
  have b3 : a % (J + 1) < J + 1 := Nat.mod_lt _ (by omega)
  have e0 : nI J + (1 : Int32) = nI (J + 1) := nad J 1
  have e1 : nI a / nI (J + 1) = nI (a / (J + 1)) := ndv (by omega) (by omega) (by omega)
  have e2 : nI a - nI (a / (J + 1)) * nI (J + 1) = nI (a % (J + 1)) := by rw [nml, nsb b2, md_s]
  have e3 : (5 : Int32) * nI w + nI (a % (J + 1)) = nI (5 * w + a % (J + 1)) := by rw [show (5 : Int32) = nI 5 from rfl, nml, nad]
  have e4 : ¬ (nI (J + 1) = 0) := by rw [show (0 : Int32) = nI 0 from rfl, neq (by omega) (by omega)]; omega
  rw [e_M_tries_5, show (8 : Int32).toInt.toNat = 8 from rfl, h8, e0, e1, e2, e3, nN (by omega), nN (by omega), h63, h62, nad]
  rw [if_pos (by decide), if_neg e4, if_pos (by decide), if_neg e4, if_pos (by rw [nI_toInt (by omega)]; omega), if_pos (by rw [nI_toInt (by omega)]; omega), if_pos (by rw [nI_toInt (by omega)]; omega)]
  rfl
def T62 (J : Nat) (gv : Nat → Nat → Nat) (K : mm_I) : Prop := ∀ w, w < 6 → K 62 0 (5 * w) = nI 0 ∧ ∀ j, j < J → K 62 0 (5 * w + (j + 1)) = nI (gv w j)
theorem s_M_tries (d x J : Nat) (gv : Nat → Nat → Nat) (I : mm_I) (hJ : J ≤ 4) (hx : x ≤ 15625) (h8 : I 47 0 8 = nI J) (hT : T62 J gv I) (hg : ∀ w j, gv w j ≤ 20) : ∃ I', Sn (d + 1) q_M_tries [.inr (12, 0), .inl (nI x)] I = some (none, (sh0, I')) ∧ eqo [63] I I' ∧ ∀ j, j < J → I' 63 0 (j + 1) = nI (hsN gv 6 (dgs (J + 1) 0 (fun _ => 0) x) j) := by
  have k1 := lpG (n := 5) (fun i K => Rn d q_M_tries 1 [some (.inr (12, 0)), some (.inl (nI x)), some (.inl (nI i)), none, none] [] K) (fun i => wr I 63 0 0 i (fun _ => nI 0)) (fun i hi => by
    have := wr_s I 63 0 0 i (fun _ => nI 0)
    rw [Nat.zero_add] at this
    simp (disch := omega) only [e_M_tries_2, e_M_tries_1 (x2 := nI i), lit, nad, nml, bd_s, ct_s, ct_n, a11, a01, aB2, bitA, nlt, nle, neq, dlT, dlF, deT, deF, dqT, dqF, nN, inb, nsb, ndv, nrm, if_true, if_false, ite_true, ite_false, true_and, and_true, and_self, and_false, false_and, or_true, true_or, or_false, false_or, or_self, ↓reduceIte, eq_self, Nat.reduceAdd, Nat.reduceMul, Nat.reduceSub, Nat.reduceDiv, Nat.reduceMod, Nat.zero_add, Nat.mul_zero, not_true_eq_false, not_false_eq_true, up_T, up_F, wr_T, wr_F, ngE, ngE', ngL, ngL', ngQ, ngQ', ← this]) 0 (Nat.zero_le _)
  rw [show wr I 63 0 0 0 (fun _ => nI 0) = I from wr_0 _ _ _ _ _] at k1
  have k2 : Sn (d + 1) q_M_tries [.inr (12, 0), .inl (nI x)] I = Rn d q_M_tries 4 [some (.inr (12, 0)), some (.inl (nI x)), some (.inl (nI x)), some (.inl (nI 5 - nI 0)), none] [] (wr I 63 0 0 5 (fun _ => nI 0)) := by
    rw [n_M_tries, e_M_tries_0]
    refine k1.trans ?_
    simp (disch := omega) only [e_M_tries_1, e_M_tries_3, lit, nad, nml, bd_s, ct_s, ct_n, a11, a01, aB2, bitA, nlt, nle, neq, dlT, dlF, deT, deF, dqT, dqF, nN, inb, nsb, ndv, nrm, if_true, if_false, ite_true, ite_false, true_and, and_true, and_self, and_false, false_and, or_true, true_or, or_false, false_or, or_self, ↓reduceIte, eq_self, Nat.reduceAdd, Nat.reduceMul, Nat.reduceSub, Nat.reduceDiv, Nat.reduceMod, Nat.zero_add, Nat.mul_zero, not_true_eq_false, not_false_eq_true, up_T, up_F, wr_T, wr_F, ngE, ngE', ngL, ngL', ngQ, ngQ']
  rw [k2]
  let f : Nat → Nat → Nat := fun w j => if dgs (J + 1) 0 (fun _ => 0) x w = j + 1 then gv w j else 0
  have hf : ∀ w j, f w j ≤ 20 := fun w j => by
    show (if _ then _ else _) ≤ 20
    have := hg w j
    split <;> omega
  refine lpX (n := 6) (σ := Option mm_V × mm_I) (fun i s => Rn d q_M_tries 4 [some (.inr (12, 0)), some (.inl (nI x)), some (.inl (nI (x / (J + 1) ^ i))), some (.inl (nI 5 - nI i)), s.1] [] s.2) (fun i s => eqo [63] I s.2 ∧ s.2 63 0 0 = nI 0 ∧ ∀ j, j < J → s.2 63 0 (j + 1) = nI (hpN f (6 - i) i j)) (fun q => ∃ I', q = some (none, (sh0, I')) ∧ eqo [63] I I' ∧ ∀ j, j < J → I' 63 0 (j + 1) = nI (hsN gv 6 (dgs (J + 1) 0 (fun _ => 0) x) j)) ?_ ?_ 0 (none, wr I 63 0 0 5 (fun _ => nI 0)) (Nat.zero_le _) ?_ |> (fun q => by rw [Nat.pow_zero, Nat.div_one] at q; exact q)
  · rintro i ⟨v, K⟩ hi ⟨j1, j2, j3⟩
    dsimp only at j1 j2 j3 ⊢
    right
    obtain ⟨z1, z2⟩ := dn5 i hi
    have h8' : K 47 0 8 = nI J := by rw [j1 47 (by decide)]; exact h8
    have bx : x / (J + 1) ^ i ≤ x := Nat.div_le_self _ _
    have dg : dgs (J + 1) 0 (fun _ => 0) x (5 - i) = x / (J + 1) ^ i % (J + 1) := by
      unfold dgs
      rw [if_pos (by omega), show 5 - (5 - i) = i by omega]
    have dlt : x / (J + 1) ^ i % (J + 1) < J + 1 := Nat.mod_lt _ (by omega)
    have hps : ∀ j, hpN f (6 - (i + 1)) (i + 1) j = f (5 - i) j + hpN f (6 - i) i j := fun j => by
      rw [hp_s, show 6 - (i + 1) = 5 - i by omega, show 5 - i + 1 = 6 - i by omega]
    have b4 : Rn d q_M_tries 4 [some (.inr (12, 0)), some (.inl (nI x)), some (.inl (nI (x / (J + 1) ^ i))), some (.inl (nI 5 - nI i)), v] [] K = Rn d q_M_tries 5 [some (.inr (12, 0)), some (.inl (nI x)), some (.inl (nI (x / (J + 1) ^ i))), some (.inl (nI (5 - i))), v] [] K := by
      rw [z1]
      simp (disch := omega) only [e_M_tries_4 (x3 := nI (5 - i)), lit, nad, nml, bd_s, ct_s, ct_n, a11, a01, aB2, bitA, nlt, nle, neq, dlT, dlF, deT, deF, dqT, dqF, nN, inb, nsb, ndv, nrm, if_true, if_false, ite_true, ite_false, true_and, and_true, and_self, and_false, false_and, or_true, true_or, or_false, false_or, or_self, ↓reduceIte, eq_self, Nat.reduceAdd, Nat.reduceMul, Nat.reduceSub, Nat.reduceDiv, Nat.reduceMod, Nat.zero_add, Nat.mul_zero, not_true_eq_false, not_false_eq_true, up_T, up_F, wr_T, wr_F, ngE, ngE', ngL, ngL', ngQ, ngQ']
    have dd : x / (J + 1) ^ i / (J + 1) = x / (J + 1) ^ (i + 1) := by rw [Nat.div_div_eq_div_mul, Nat.pow_succ]
    have t62 : ∀ w, w < 6 → K 62 0 (5 * w) = nI 0 ∧ ∀ j, j < J → K 62 0 (5 * w + (j + 1)) = nI (gv w j) := by rw [j1 62 (by decide)]; exact hT
    rcases (show x / (J + 1) ^ i % (J + 1) = 0 ∨ ∃ j, j < J ∧ x / (J + 1) ^ i % (J + 1) = j + 1 from by
      by_cases z : x / (J + 1) ^ i % (J + 1) = 0
      · exact Or.inl z
      · exact Or.inr ⟨x / (J + 1) ^ i % (J + 1) - 1, by omega, by omega⟩) with c | ⟨j, hj, c⟩
    · have st := s_tr5 d x (x / (J + 1) ^ i) (5 - i) J 0 0 v K hJ (by omega) (by omega) h8' (by rw [c]; exact j2) (by rw [c]; exact (t62 (5 - i) (by omega)).1) (by omega) (by omega)
      rw [c, dd] at st
      refine ⟨(some (.inl (nI 0)), mm_up K 63 0 0 (nI 0)), ⟨eqo_up j1 (by decide), by dsimp only; rw [up_s], fun j hj => ?_⟩, ?_⟩
      · dsimp only
        rw [up_F (by omega), j3 j hj, hps]
        have : f (5 - i) j = 0 := by show (if _ then _ else _) = 0; rw [dg, if_neg (by omega)]
        rw [this, Nat.zero_add]
      · dsimp only
        rw [b4, st, z2]
    · have hb := hp_b hf (6 - i) i j
      have st := s_tr5 d x (x / (J + 1) ^ i) (5 - i) J (hpN f (6 - i) i j) (gv (5 - i) j) v K hJ (by omega) (by omega) h8' (by rw [c]; exact j3 j hj) (by rw [c]; exact (t62 (5 - i) (by omega)).2 j hj) (by omega) (hg _ _)
      rw [c, dd] at st
      refine ⟨(some (.inl (nI (j + 1))), mm_up K 63 0 (j + 1) (nI (hpN f (6 - i) i j + gv (5 - i) j))), ⟨eqo_up j1 (by decide), by dsimp only; rw [up_F (by omega)]; exact j2, fun j' hj' => ?_⟩, ?_⟩
      · dsimp only
        rw [hps]
        by_cases z : j' = j
        · have : f (5 - i) j = gv (5 - i) j := by show (if _ then _ else _) = _; rw [dg, if_pos c]
          rw [z, up_s, this, Nat.add_comm]
        · have : f (5 - i) j' = 0 := by show (if _ then _ else _) = 0; rw [dg, if_neg (by omega)]
          rw [up_F (by omega), j3 j' hj', this, Nat.zero_add]
      · dsimp only
        rw [b4, st, z2]
  · rintro ⟨v, K⟩ ⟨j1, j2, j3⟩
    dsimp only at j1 j2 j3 ⊢
    refine ⟨K, ?_, j1, fun j hj => ?_⟩
    · rw [show nI 5 - nI 6 = -nI 1 by decide, e_M_tries_4, if_pos (by decide), e_M_tries_6]
    · rw [j3 j hj]
      unfold hsN hpN
      exact congrArg nI (sm_congr (fun i _ => by rw [show 6 - 6 + i = i by omega]))
  · exact ⟨(show eqo [63] I (wr I 63 0 0 5 (fun _ => nI 0)) from eqo_wr (eqo_rf _ _) (by decide)), by dsimp only; rw [wr_T (by omega)], fun j hj => by dsimp only; rw [wr_T (by omega)]; rfl⟩
