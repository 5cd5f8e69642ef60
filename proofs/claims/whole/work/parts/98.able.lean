/-! Who is able; the bound; the best, of the class. -/
theorem and1 (x : Int32) : x &&& 1 = 0 ∨ x &&& 1 = 1 := by
  have h : (x &&& 1).toBitVec = x.toBitVec &&& 1#32 := rfl
  rw [BitVec.and_one_eq_setWidth_ofBool_getLsbD] at h
  cases q : x.toBitVec.getLsbD 0 with
  | false => left; rw [q] at h; exact Int32.toBitVec_inj.mp (h.trans (by decide))
  | true => right; rw [q] at h; exact Int32.toBitVec_inj.mp (h.trans (by decide))
def btI (x : Int32) : Nat := if x &&& 1 = 0 then 0 else 1
theorem btI_le (x : Int32) : btI x ≤ 1 := by unfold btI; split <;> omega
theorem btI_1 (x : Int32) : x &&& 1 = nI (btI x) := by
  unfold btI
  rcases and1 x with h | h
  · rw [if_pos h, h]; rfl
  · rw [if_neg (by rw [h]; decide), h]; rfl
theorem btI_2 (x y : Int32) : (x &&& 1) &&& (y &&& 1) = nI (btI x * btI y) := by
  rw [btI_1, btI_1]
  have h1 := btI_le x
  have h2 := btI_le y
  rcases (show btI x = 0 ∨ btI x = 1 by omega) with a | a <;> rcases (show btI y = 0 ∨ btI y = 1 by omega) with b | b <;> rw [a, b] <;> rfl
theorem btI_3 (x y : Int32) : (x &&& 1) &&& y = nI (btI x * btI y) := by
  rw [← btI_2]
  rcases and1 x with h | h
  · rw [h, Int32.zero_and, Int32.zero_and]
  · rw [h, Int32.and_comm y 1, ← Int32.and_assoc, Int32.and_self]
def pbN (A : mm_A) (w sk i : Nat) : Nat := btI (nI (A 9 i 0) >>> (nI sk &&& 31)) * btI (nI (A 9 i 1) >>> (nI w &&& 31))
theorem pb_le (A : mm_A) (w sk i : Nat) : pbN A w sk i ≤ 1 := by
  have h1 := btI_le (nI (A 9 i 0) >>> (nI sk &&& 31))
  have h2 := btI_le (nI (A 9 i 1) >>> (nI w &&& 31))
  exact Nat.mul_le_mul h1 h2
def ablA (A : mm_A) (w sk : Nat) : Nat := sm (pbN A w sk) (A 0 0 7)
theorem abl_le {A : mm_A} (g : Good A) (w sk : Nat) : ablA A w sk ≤ 10 := by
  have h1 : A 0 0 7 ≤ 10 := g.2.1 5 (by decide)
  have : ablA A w sk ≤ 1 * A 0 0 7 := sm_le (fun i _ => pb_le A w sk i)
  omega
theorem s_ableOn (d w sk : Nat) (A : mm_A) (I : mm_I) (hC : RepC 0 A I) (F : Fix I) (g : Good A) : Sn (d + 3) q_Roster_ableOn [.inr (3, 0), .inl (nI w), .inl (nI sk)] I = some (some (.inl (nI (ablA A w sk))), (sh0, I)) := by
  have h1 : A 0 0 7 ≤ 10 := g.2.1 5 (by decide)
  have hm : I 7 5 3 = nI (A 0 0 7) := c0_mn hC (t := 5) (by decide)
  rw [n_Roster_ableOn, e_Roster_ableOn_0]
  refine lpX (n := A 0 0 7) (σ := Option mm_V × Option mm_V) (fun i s => Rn (d + 2) q_Roster_ableOn 1 [some (.inr (3, 0)), some (.inl (nI w)), some (.inl (nI sk)), some (.inl (nI (sm (pbN A w sk) i))), some (.inl (nI i)), s.1, s.2] [] I) (fun _ _ => True) (fun r => r = _) (fun i s hi _ => Or.inr ?_) (fun s _ => ?_) 0 (none, none) (Nat.zero_le _) trivial
  · have a0 := s_at0 d 5 i 0 A I hC F g (by decide) hi (by decide)
    have a1 := s_at0 d 5 i 1 A I hC F g (by decide) hi (by decide)
    have hs : sm (pbN A w sk) i ≤ 1 * i := sm_le (fun k _ => pb_le A w sk k)
    have hp := pb_le A w sk i
    refine ⟨(some (.inl (nI (btI (nI (A 9 i 0) >>> (nI sk &&& 31))))), some (.inl (nI (btI (nI (A 9 i 1) >>> (nI w &&& 31)))))), trivial, ?_⟩
    have e1 : (nI (A 9 i 0) >>> (nI sk &&& 31)) &&& 1 &&& ((nI (A 9 i 1) >>> (nI w &&& 31)) &&& 1) = nI (pbN A w sk i) := btI_2 _ _
    rw [e_Roster_ableOn_1, if_pos (by rw [hm, nlt (by omega) (by omega)]; exact hi), e_Roster_ableOn_2, show (0 : Int32) = nI 0 from rfl, show 7 * 0 + 5 = 5 from rfl, a0, bd_s, ct_s]
    refine (e_Roster_ableOn_3 (d + 2) 0 (nI w) (nI sk) (nI (sm (pbN A w sk) i)) (nI i) s.1 s.2 (nI (A 9 i 0)) I).trans ?_
    rw [show (1 : Int32) = nI 1 from rfl, show 7 * 0 + 5 = 5 from rfl, a1, bd_s, ct_s]
    refine (e_Roster_ableOn_4 (d + 2) 0 (nI w) (nI sk) (nI (sm (pbN A w sk) i)) (nI i) _ s.2 (nI (A 9 i 1)) I).trans ?_
    rw [show nI 1 = (1 : Int32) from rfl, e1, btI_1, btI_1, nad, sm, show nI i + (1 : Int32) = nI (i + 1) from nad i 1]
  · simp (disch := omega) only [e_Roster_ableOn_1, e_Roster_ableOn_5, lit, nad, nml, bd_s, ct_s, ct_n, a11, a01, aB2, bitA, nlt, nle, neq, dlT, dlF, deT, deF, dqT, dqF, nN, inb, nsb, ndv, nrm, if_true, if_false, ite_true, ite_false, true_and, and_true, and_self, and_false, false_and, or_true, true_or, or_false, false_or, or_self, ↓reduceIte, eq_self, Nat.reduceAdd, Nat.reduceMul, Nat.reduceSub, Nat.reduceDiv, Nat.reduceMod, Nat.zero_add, Nat.mul_zero, not_true_eq_false, not_false_eq_true, up_T, up_F, wr_T, wr_F, ngE, ngE', ngL, ngL', ngQ, ngQ', hm]
    rfl
theorem s_M_workers (d w sk : Nat) (A : mm_A) (I : mm_I) (hR : RepR 0 A I) (g : Good A) : Sn (d + 2) q_M_workers [.inr (12, 0), .inl (nI w), .inl (nI sk)] I = some (some (.inl (nI (if ablA A w sk < A 0 0 9 then ablA A w sk else A 0 0 9))), (sh0, I)) := by
  have h1 : A 0 0 7 ≤ 10 := g.2.1 5 (by decide)
  have h9 := g.1.2.2.1
  have ha := abl_le g w sk
  have hm : I 47 0 7 = nI (A 0 0 7) := hR.1 7 (by decide)
  have hb : I 47 0 9 = nI (A 0 0 9) := hR.1 9 (by decide)
  rw [n_M_workers, e_M_workers_0]
  refine lpX (n := A 0 0 7) (σ := Unit) (fun i _ => Rn (d + 1) q_M_workers 1 [some (.inr (12, 0)), some (.inl (nI w)), some (.inl (nI sk)), some (.inl (nI (sm (pbN A w sk) i))), some (.inl (nI i))] [] I) (fun _ _ => True) (fun r => r = _) (fun i s hi _ => Or.inr ⟨(), trivial, ?_⟩) (fun s _ => ?_) 0 () (Nat.zero_le _) trivial
  · have a0 : I 47 0 (312 + 2 * i + 0) = nI (A 9 i 0) := hR.2.2.2.2 5 i 0 (by decide) hi (by decide)
    have a1 : I 47 0 (312 + 2 * i + 1) = nI (A 9 i 1) := hR.2.2.2.2 5 i 1 (by decide) hi (by decide)
    rw [Nat.add_zero] at a0
    have hs : sm (pbN A w sk) i ≤ 1 * i := sm_le (fun k _ => pb_le A w sk k)
    have hp := pb_le A w sk i
    have e1 : (nI (A 9 i 0) >>> (nI sk &&& 31)) &&& 1 &&& (nI (A 9 i 1) >>> (nI w &&& 31)) = nI (pbN A w sk i) := btI_3 _ _
    have z1 : (312 : Int32) + 2 * nI i = nI (312 + 2 * i) := by rw [show (312 : Int32) = nI 312 from rfl, show (2 : Int32) = nI 2 from rfl, nml, nad]
    have z2 : nI (312 + 2 * i) + (1 : Int32) = nI (312 + 2 * i + 1) := nad _ _
    rw [e_M_workers_1, if_pos (by decide), show (7 : Int32).toInt.toNat = 7 from rfl, hm, if_pos (by rw [nlt (by omega) (by omega)]; exact hi), e_M_workers_2, z1, z2, if_pos (by rw [nI_toInt (by omega)]; omega), if_pos (by rw [nI_toInt (by omega)]; omega), nN (by omega), nN (by omega), a0, a1, e1, nad, sm, show nI i + (1 : Int32) = nI (i + 1) from nad i 1]
  · have ls := s_M_lesser d (nI (ablA A w sk)) (nI (A 0 0 9)) I
    simp only [nlt (show ablA A w sk < 2147483648 by omega) (show A 0 0 9 < 2147483648 by omega)] at ls
    show Rn (d + 1) q_M_workers 1 [some (.inr (12, 0)), some (.inl (nI w)), some (.inl (nI sk)), some (.inl (nI (ablA A w sk))), some (.inl (nI (A 0 0 7)))] [] I = _
    simp (disch := omega) only [e_M_workers_1, e_M_workers_3, e_M_workers_4, lit, nad, nml, bd_s, ct_s, ct_n, a11, a01, aB2, bitA, nlt, nle, neq, dlT, dlF, deT, deF, dqT, dqF, nN, inb, nsb, ndv, nrm, if_true, if_false, ite_true, ite_false, true_and, and_true, and_self, and_false, false_and, or_true, true_or, or_false, false_or, or_self, ↓reduceIte, eq_self, Nat.reduceAdd, Nat.reduceMul, Nat.reduceSub, Nat.reduceDiv, Nat.reduceMod, Nat.zero_add, Nat.mul_zero, not_true_eq_false, not_false_eq_true, up_T, up_F, wr_T, wr_F, ngE, ngE', ngL, ngL', ngQ, ngQ', hm, hb, ls]
    by_cases q : ablA A w sk < A 0 0 9
    · rw [if_pos q, if_pos q]
    · rw [if_neg q, if_neg q]
