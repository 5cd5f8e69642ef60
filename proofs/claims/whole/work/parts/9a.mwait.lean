/-! The reference's signs that wait. -/
def wcR (c : Nat) : Int32 := if c = 20040 then -nI 11 else dcR c
def okW1 (c : Nat) : Prop := c = 20040 ∨ c = 20033 ∨ c = 20124 ∨ c = 20038 ∨ c = 20060 ∨ c = 20061 ∨ c = 20062 ∨ c = 20043 ∨ c = 20045 ∨ c = 20042 ∨ c = 20047
def okW (W : List Nat) : Prop := ∀ c ∈ W, okW1 c
theorem okW_s {b : Nat} (h : rkS b ≠ 0) : okW1 (20000 + b) := by
  have := rkS_0 h
  unfold okW1
  omega
theorem okW_c {c : Nat} {W : List Nat} (h : okW1 c) (hW : okW W) : okW (c :: W) := fun d hd => by
  rw [List.mem_cons] at hd
  rcases hd with q | q
  · rw [q]; exact h
  · exact hW d q
theorem okW_t {c : Nat} {W : List Nat} (h : okW (c :: W)) : okW1 c ∧ okW W := ⟨h c (List.mem_cons_self ..), fun d hd => h d (List.mem_cons_of_mem _ hd)⟩
theorem okW_l {l : Nat} : ∀ {W C : List Nat}, okW W → okW (stl l W C).1
  | [], _, h => h
  | c :: W, C, h => by
    rw [stl]
    split
    · exact h
    · exact okW_l (okW_t h).2
def cnO : List Nat → Nat
  | [] => 0
  | c :: W => cnO W + (if c = 20040 then 1 else 0)
theorem cnO_l {l : Nat} : ∀ {W C : List Nat}, cnO (stl l W C).1 = cnO W
  | [], _ => rfl
  | c :: W, C => by
    rw [stl]
    split
    · rfl
    · rename_i e
      rw [cnO_l, cnO, if_neg (fun q => e (Or.inl q))]
      rfl
theorem stl0_h : ∀ {W C : List Nat}, cnO W ≠ 0 → ∃ W2, (stl 0 W C).1 = 20040 :: W2
  | [], _, h => absurd rfl h
  | c :: W, C, h => by
    rw [stl]
    by_cases e : c = 20040
    · rw [if_pos (Or.inl e), e]; exact ⟨W, rfl⟩
    · rw [if_neg (by omega)]
      refine stl0_h ?_
      rw [cnO, if_neg e] at h
      exact h
theorem cn_le : ∀ W : List Nat, cnN W ≤ W.length
  | [] => Nat.le_refl _
  | c :: W => by
    have := cn_le W
    rw [cnN, List.length_cons]
    split <;> omega
theorem s_rank (d c : Nat) (I : mm_I) (hc : okW1 c) (h0 : c ≠ 20040) : Sn (d + 1) q_M_rank [.inl (wcR c)] I = some (some (.inl (nI (rkC c))), (sh0, I)) := by
  rcases hc with e | e | e | e | e | e | e | e | e | e | e
  · exact absurd e h0
  · subst e
    rw [n_M_rank, e_M_rank_0, if_neg (by decide), e_M_rank_2, if_neg (by decide), e_M_rank_4, if_pos (by decide), e_M_rank_6, if_pos (by decide), e_M_rank_8, if_pos (by decide), e_M_rank_10, e_M_rank_11]
    rfl
  · subst e
    rw [n_M_rank, e_M_rank_0, if_pos (by decide), e_M_rank_1, e_M_rank_11]
    rfl
  · subst e
    rw [n_M_rank, e_M_rank_0, if_neg (by decide), e_M_rank_2, if_pos (by decide), e_M_rank_3, e_M_rank_11]
    rfl
  · subst e
    rw [n_M_rank, e_M_rank_0, if_neg (by decide), e_M_rank_2, if_neg (by decide), e_M_rank_4, if_neg (by decide), e_M_rank_5, e_M_rank_11]
    rfl
  · subst e
    rw [n_M_rank, e_M_rank_0, if_neg (by decide), e_M_rank_2, if_neg (by decide), e_M_rank_4, if_neg (by decide), e_M_rank_5, e_M_rank_11]
    rfl
  · subst e
    rw [n_M_rank, e_M_rank_0, if_neg (by decide), e_M_rank_2, if_neg (by decide), e_M_rank_4, if_neg (by decide), e_M_rank_5, e_M_rank_11]
    rfl
  · subst e
    rw [n_M_rank, e_M_rank_0, if_neg (by decide), e_M_rank_2, if_neg (by decide), e_M_rank_4, if_pos (by decide), e_M_rank_6, if_neg (by decide), e_M_rank_7, e_M_rank_11]
    rfl
  · subst e
    rw [n_M_rank, e_M_rank_0, if_neg (by decide), e_M_rank_2, if_neg (by decide), e_M_rank_4, if_pos (by decide), e_M_rank_6, if_neg (by decide), e_M_rank_7, e_M_rank_11]
    rfl
  · subst e
    rw [n_M_rank, e_M_rank_0, if_neg (by decide), e_M_rank_2, if_neg (by decide), e_M_rank_4, if_pos (by decide), e_M_rank_6, if_pos (by decide), e_M_rank_8, if_neg (by decide), e_M_rank_9, e_M_rank_11]
    rfl
  · subst e
    rw [n_M_rank, e_M_rank_0, if_neg (by decide), e_M_rank_2, if_neg (by decide), e_M_rank_4, if_pos (by decide), e_M_rank_6, if_pos (by decide), e_M_rank_8, if_neg (by decide), e_M_rank_9, e_M_rank_11]
    rfl
theorem wc_11 {c : Nat} (hc : okW1 c) : (wcR c = -11) = (c = 20040) := propext (by
  rcases hc with e | e | e | e | e | e | e | e | e | e | e <;> subst e <;> decide)
theorem wc_10 {c : Nat} (hc : okW1 c) : (wcR c = -10) = (c = 20033) := propext (by
  rcases hc with e | e | e | e | e | e | e | e | e | e | e <;> subst e <;> decide)
theorem dc_0 {b : Nat} (h : rkS b ≠ 0) : (dcR (20000 + b) = nI 0) = False := eq_false (by
  rcases rkS_0 h with e | e | e | e | e | e | e | e | e <;> subst e <;> decide)
/-- what waits, and the codes -/
def RW (W C : List Nat) (I : mm_I) : Prop := I 12 0 24 = nI W.length ∧ I 12 0 21 = nI C.length ∧ (∀ p, p < C.length → I 54 0 p = dcR (mm_at 0 C p)) ∧ ∀ p, p < W.length → I 55 0 p = wcR (mm_at 0 W.reverse p)
def s4 (I I' : mm_I) : Prop := eqo [12, 54] I I' ∧ ∀ j, j ≠ 21 → j ≠ 24 → I' 12 0 j = I 12 0 j
theorem RW_top {c : Nat} {W C : List Nat} {I : mm_I} (h : RW (c :: W) C I) : I 55 0 W.length = wcR c := by
  rw [h.2.2.2 W.length (by rw [List.length_cons]; omega), List.reverse_cons]
  have := at_r W.reverse c
  rw [List.length_reverse] at this
  rw [this]
theorem RW_pop {c : Nat} {W C : List Nat} {I : mm_I} (h : RW (c :: W) C I) : ∀ p, p < W.length → I 55 0 p = wcR (mm_at 0 W.reverse p) := fun p hp => by
  rw [h.2.2.2 p (by rw [List.length_cons]; omega), List.reverse_cons, at_l (by rw [List.length_reverse]; exact hp)]
theorem RW_push {c : Nat} {W C : List Nat} {I I' : mm_I} (h : RW W C I) (e24 : I' 12 0 24 = nI (W.length + 1)) (e21 : I' 12 0 21 = I 12 0 21) (e54 : I' 54 = I 54) (ec : I' 55 0 W.length = wcR c) (e55 : ∀ p, p ≠ W.length → I' 55 0 p = I 55 0 p) : RW (c :: W) C I' := by
  refine ⟨e24, e21.trans h.2.1, by rw [e54]; exact h.2.2.1, fun p hp => ?_⟩
  rw [List.length_cons] at hp
  rw [List.reverse_cons]
  by_cases e : p = W.length
  · have := at_r W.reverse c
    rw [List.length_reverse] at this
    rw [e, ec, this]
  · rw [e55 p e, at_l (by rw [List.length_reverse]; omega)]
    exact h.2.2.2 p (by omega)
theorem RW_e {W C : List Nat} {I I' : mm_I} (h : RW W C I) (e24 : I' 12 0 24 = I 12 0 24) (e21 : I' 12 0 21 = I 12 0 21) (e54 : I' 54 = I 54) (e55 : I' 55 = I 55) : RW W C I' := by
  unfold RW
  rw [e24, e21, e54, e55]
  exact h
theorem s_settle (d l : Nat) (hl : l ≤ 6) : ∀ W C (I : mm_I), RW W C I → okW W → C.length + W.length ≤ 96 → ∃ I', Rn (d + 1) q_M_settle 0 [some (.inr (12, 0)), some (.inl (nI l))] [] I = some (none, (sh0, I')) ∧ RW (stl l W C).1 (stl l W C).2 I' ∧ s4 I I' := by
  intro W
  induction W with
  | nil =>
    intro C I h _ _
    have h24 : I 12 0 24 = nI 0 := h.1
    exact ⟨I, by simp (disch := omega) only [e_M_settle_0, e_M_settle_5, lit, nad, nml, bd_s, ct_s, ct_n, a11, a01, aB2, bitA, nlt, nle, neq, dlT, dlF, deT, deF, dqT, dqF, nN, inb, nsb, ndv, nrm, if_true, if_false, ite_true, ite_false, true_and, and_true, and_self, and_false, false_and, or_true, true_or, or_false, false_or, or_self, ↓reduceIte, eq_self, Nat.reduceAdd, Nat.reduceMul, Nat.reduceSub, Nat.reduceDiv, Nat.reduceMod, Nat.zero_add, Nat.mul_zero, not_true_eq_false, not_false_eq_true, up_T, up_F, wr_T, wr_F, ngE, ngE', ngL, ngL', ngQ, ngQ', h24], h, eqo_rf _ _, fun _ _ _ => rfl⟩
  | cons c W ih =>
    intro C I h hW hl2
    rw [List.length_cons] at hl2
    have h24 : I 12 0 24 = nI (W.length + 1) := h.1
    have h21 : I 12 0 21 = nI C.length := h.2.1
    have top := RW_top h
    obtain ⟨w1, w2⟩ := okW_t hW
    have sb : nI (W.length + 1) - (1 : Int32) = nI W.length := nsb (a := W.length + 1) (b := 1) (by omega)
    have st : Rn (d + 1) q_M_settle 0 [some (.inr (12, 0)), some (.inl (nI l))] [] I = if c = 20040 then Rn (d + 1) q_M_settle 5 [some (.inr (12, 0)), some (.inl (nI l))] [] I else Rn (d + 1) q_M_settle 2 [some (.inr (12, 0)), some (.inl (nI l))] [] I := by
      rw [e_M_settle_0, h24, if_pos (by rw [show (0 : Int32) = nI 0 from rfl, nlt (by omega) (by omega)]; omega), e_M_settle_1, h24, sb, if_pos (by rw [nI_toInt (by omega)]; omega), nN (by omega), top]
      have := wc_11 w1
      by_cases e : c = 20040
      · rw [if_pos e, if_pos (by rw [this]; exact e)]
      · rw [if_neg e, if_neg (by rw [this]; exact e)]
    rw [st, stl]
    by_cases e : c = 20040
    · rw [if_pos e, if_pos (Or.inl e)]
      exact ⟨I, by rw [e_M_settle_5], h, eqo_rf _ _, fun _ _ _ => rfl⟩
    · rw [if_neg e]
      have rk := s_rank d c I w1 e
      have rb : rkC c ≤ 6 := by unfold rkC; have := rkS_b (c - 20000); split <;> omega
      have st2 : Rn (d + 1) q_M_settle 2 [some (.inr (12, 0)), some (.inl (nI l))] [] I = if rkC c < l then Rn (d + 1) q_M_settle 5 [some (.inr (12, 0)), some (.inl (nI l))] [] I else Rn (d + 1) q_M_settle 4 [some (.inr (12, 0)), some (.inl (nI l))] [] I := by
        rw [e_M_settle_2, h24, sb, if_pos (by rw [nI_toInt (by omega)]; omega), nN (by omega), top, rk, bd_s, ct_s]
        refine (e_M_settle_3 (d + 1) (nI l) _ I).trans ?_
        by_cases z : rkC c < l
        · rw [if_pos z, if_pos (by rw [nlt (by omega) (by omega)]; exact z)]
        · rw [if_neg z, if_neg (by rw [nlt (by omega) (by omega)]; exact z)]
      rw [st2]
      by_cases z : rkC c < l
      · rw [if_pos z, if_pos (Or.inr z)]
        exact ⟨I, by rw [e_M_settle_5], h, eqo_rf _ _, fun _ _ _ => rfl⟩
      · rw [if_neg z, if_neg (by omega)]
        have st3 : Rn (d + 1) q_M_settle 4 [some (.inr (12, 0)), some (.inl (nI l))] [] I = Rn (d + 1) q_M_settle 0 [some (.inr (12, 0)), some (.inl (nI l))] [] (mm_up (mm_up (mm_up I 12 0 24 (nI W.length)) 54 0 C.length (wcR c)) 12 0 21 (nI (C.length + 1))) := by
          simp (disch := omega) only [e_M_settle_4, lit, nad, nml, bd_s, ct_s, ct_n, a11, a01, aB2, bitA, nlt, nle, neq, dlT, dlF, deT, deF, dqT, dqF, nN, inb, nsb, ndv, nrm, if_true, if_false, ite_true, ite_false, true_and, and_true, and_self, and_false, false_and, or_true, true_or, or_false, false_or, or_self, ↓reduceIte, eq_self, Nat.reduceAdd, Nat.reduceMul, Nat.reduceSub, Nat.reduceDiv, Nat.reduceMod, Nat.zero_add, Nat.mul_zero, not_true_eq_false, not_false_eq_true, up_T, up_F, wr_T, wr_F, ngE, ngE', ngL, ngL', ngQ, ngQ', h24, h21, top, Nat.add_sub_cancel]
        have hc : wcR c = dcR c := if_neg e
        have R2 : RW W (C ++ [c]) (mm_up (mm_up (mm_up I 12 0 24 (nI W.length)) 54 0 C.length (wcR c)) 12 0 21 (nI (C.length + 1))) := by
          refine ⟨by rw [up_F (by omega), up_F (by omega), up_s], by rw [up_s, List.length_append]; rfl, fun p hp => ?_, fun p hp => ?_⟩
          · rw [List.length_append, List.length_singleton] at hp
            by_cases q : p = C.length
            · rw [up_F (by omega), q, up_s, at_r, hc]
            · rw [up_F (by omega), up_F (by omega), up_F (by omega), at_l (by omega)]
              exact h.2.2.1 p (by omega)
          · rw [up_F (by omega), up_F (by omega), up_F (by omega)]
            exact RW_pop h p hp
        obtain ⟨I', i1, i2, i3⟩ := ih (C ++ [c]) _ R2 w2 (by rw [List.length_append, List.length_singleton]; omega)
        refine ⟨I', st3.trans i1, i2, eqo_tr (eqo_up (eqo_up (eqo_up (eqo_rf _ _) (by decide)) (by decide)) (by decide)) i3.1, fun j h1 h2 => ?_⟩
        rw [i3.2 j h1 h2, up_F (by omega), up_F (by omega), up_F (by omega)]
theorem cn_sm : ∀ W : List Nat, sm (fun p => if mm_at 0 W.reverse p = 20033 then 1 else 0) W.length = cnN W
  | [] => rfl
  | c :: W => by
    have h1 := at_r W.reverse c
    rw [List.length_reverse] at h1
    rw [List.length_cons, sm, List.reverse_cons, h1, cnN, ← cn_sm W]
    congr 1
    exact sm_congr (fun i hi => by rw [at_l (by rw [List.length_reverse]; exact hi)])
theorem okW_at : ∀ {l : List Nat}, okW l → ∀ {p}, p < l.length → okW1 (mm_at 0 l p)
  | [], _, _, h => absurd h (Nat.not_lt_zero _)
  | _ :: _, h, 0, _ => (okW_t h).1
  | _ :: l, h, p + 1, hp => okW_at (l := l) (okW_t h).2 (by rw [List.length_cons] at hp; omega)
theorem s_notsOpen (d : Nat) (W C : List Nat) (I : mm_I) (h : RW W C I) (hW : okW W) (hl : W.length ≤ 96) : Sn (d + 1) q_M_notsOpen [.inr (12, 0)] I = some (some (.inl (nI (cnN W))), (sh0, I)) := by
  have h24 : I 12 0 24 = nI W.length := h.1
  have hR : okW W.reverse := fun c hc => hW c (List.mem_reverse.mp hc)
  rw [n_M_notsOpen, e_M_notsOpen_0, ← cn_sm W]
  refine lpX (n := W.length) (σ := Unit) (fun i _ => Rn d q_M_notsOpen 1 [some (.inr (12, 0)), some (.inl (nI (sm (fun p => if mm_at 0 W.reverse p = 20033 then 1 else 0) i))), some (.inl (nI i))] [] I) (fun _ _ => True) (fun q => q = _) (fun i _ hi _ => Or.inr ⟨(), trivial, ?_⟩) (fun _ _ => ?_) 0 () (Nat.zero_le _) trivial
  · have e := wc_10 (okW_at hR (p := i) (by rw [List.length_reverse]; exact hi))
    have l55 := h.2.2.2 i hi
    have i1 : nI i + (1 : Int32) = nI (i + 1) := nad i 1
    rw [e_M_notsOpen_1, h24, if_pos (by rw [nlt (by omega) (by omega)]; exact hi), e_M_notsOpen_2, if_pos (by rw [nI_toInt (by omega)]; omega), nN (by omega), l55, sm]
    by_cases z : mm_at 0 W.reverse i = 20033
    · rw [if_pos (by rw [e]; exact z), e_M_notsOpen_3, e_M_notsOpen_5, i1, if_pos z, show ∀ s, nI s + (1 : Int32) = nI (s + 1) from fun s => nad s 1]
    · rw [if_neg (by rw [e]; exact z), e_M_notsOpen_4, e_M_notsOpen_5, i1, if_neg z, show ∀ s, nI s + (0 : Int32) = nI (s + 0) from fun s => nad s 0]
  · rw [e_M_notsOpen_1, h24, if_neg (by rw [nlt (by omega) (by omega)]; omega), e_M_notsOpen_6]
theorem rk_hi {b : Nat} (h : 256 ≤ b) : rkS b = 0 := by
  by_cases e : rkS b = 0
  · exact e
  · have := rkS_0 e
    omega
theorem s_signHere (d : Nat) (T : Nat → Nat) (x : LX) (I : mm_I) (h : LR T x I) (hx : x.1 ≤ 259) : Sn (d + 1) q_M_signHere [.inr (12, 0)] I = some (some (.inl (if rkS x.1 = 0 then nI 0 else dcR (20000 + x.1))), (sh0, I)) := by
  have l14 := h.2.2.1
  by_cases e : x.1 < 256
  · have tk : tkN x = 3 := by
      unfold tkN
      rw [if_neg (by omega), if_neg (by omega), if_neg (by omega), if_neg (by omega)]
    rw [tk] at l14
    have l15 := h.2.2.2.1 e
    by_cases z : rkS x.1 = 0
    · rw [if_pos z]
      have n1 : x.1 ≠ 38 ∧ x.1 ≠ 42 ∧ x.1 ≠ 43 ∧ x.1 ≠ 45 ∧ x.1 ≠ 47 ∧ x.1 ≠ 60 ∧ x.1 ≠ 61 ∧ x.1 ≠ 62 ∧ x.1 ≠ 124 := by
        refine ⟨?_, ?_, ?_, ?_, ?_, ?_, ?_, ?_, ?_⟩ <;> (intro q; rw [q] at z; exact absurd z (by decide))
      simp (disch := omega) only [n_M_signHere, e_M_signHere_0, e_M_signHere_1, e_M_signHere_2, e_M_signHere_3, e_M_signHere_4, e_M_signHere_5, e_M_signHere_6, e_M_signHere_7, e_M_signHere_8, e_M_signHere_9, e_M_signHere_10, e_M_signHere_11, e_M_signHere_12, lit, nad, nml, bd_s, ct_s, ct_n, a11, a01, aB2, bitA, nlt, nle, neq, dlT, dlF, deT, deF, dqT, dqF, nN, inb, nsb, ndv, nrm, if_true, if_false, ite_true, ite_false, true_and, and_true, and_self, and_false, false_and, or_true, true_or, or_false, false_or, or_self, ↓reduceIte, eq_self, Nat.reduceAdd, Nat.reduceMul, Nat.reduceSub, Nat.reduceDiv, Nat.reduceMod, Nat.zero_add, Nat.mul_zero, not_true_eq_false, not_false_eq_true, up_T, up_F, wr_T, wr_F, ngE, ngE', ngL, ngL', ngQ, ngQ', l14, l15]
    · rw [if_neg z]
      rcases rkS_0 z with q | q | q | q | q | q | q | q | q <;> (rw [q] at l15 ⊢; simp (disch := omega) only [n_M_signHere, e_M_signHere_0, e_M_signHere_1, e_M_signHere_2, e_M_signHere_3, e_M_signHere_4, e_M_signHere_5, e_M_signHere_6, e_M_signHere_7, e_M_signHere_8, e_M_signHere_9, e_M_signHere_10, e_M_signHere_11, e_M_signHere_12, lit, nad, nml, bd_s, ct_s, ct_n, a11, a01, aB2, bitA, nlt, nle, neq, dlT, dlF, deT, deF, dqT, dqF, nN, inb, nsb, ndv, nrm, if_true, if_false, ite_true, ite_false, true_and, and_true, and_self, and_false, false_and, or_true, true_or, or_false, false_or, or_self, ↓reduceIte, eq_self, Nat.reduceAdd, Nat.reduceMul, Nat.reduceSub, Nat.reduceDiv, Nat.reduceMod, Nat.zero_add, Nat.mul_zero, not_true_eq_false, not_false_eq_true, up_T, up_F, wr_T, wr_F, ngE, ngE', ngL, ngL', ngQ, ngQ', l14, l15]; rfl)
  · have tk : tkN x ≠ 3 ∧ tkN x ≤ 4 := by
      unfold tkN
      rcases (show x.1 = 256 ∨ x.1 = 257 ∨ x.1 = 258 ∨ x.1 = 259 by omega) with q | q | q | q
      · rw [if_pos q]; decide
      · rw [if_neg (by omega), if_pos q]; decide
      · rw [if_neg (by omega), if_neg (by omega), if_pos q]; split <;> decide
      · rw [if_neg (by omega), if_neg (by omega), if_neg (by omega), if_pos q]; decide
    rw [if_pos (rk_hi (by omega))]
    simp (disch := omega) only [n_M_signHere, e_M_signHere_0, e_M_signHere_1, lit, nad, nml, bd_s, ct_s, ct_n, a11, a01, aB2, bitA, nlt, nle, neq, dlT, dlF, deT, deF, dqT, dqF, nN, inb, nsb, ndv, nrm, if_true, if_false, ite_true, ite_false, true_and, and_true, and_self, and_false, false_and, or_true, true_or, or_false, false_or, or_self, ↓reduceIte, eq_self, Nat.reduceAdd, Nat.reduceMul, Nat.reduceSub, Nat.reduceDiv, Nat.reduceMod, Nat.zero_add, Nat.mul_zero, not_true_eq_false, not_false_eq_true, up_T, up_F, wr_T, wr_F, ngE, ngE', ngL, ngL', ngQ, ngQ', l14]
theorem s_nameOf (d key b : Nat) (I : mm_I) (h17 : I 12 0 17 = nI key) (hk : key < 4) (hb : b ≤ 255) : Sn (d + 1) q_M_nameOf [.inr (12, 0), .inl (nI b)] I = some (some (.inl (match nmK key b with
    | some i => nI i
    | none => -nI 1)), (sh0, I)) := by
  unfold nmK
  rcases (show key = 0 ∨ key = 1 ∨ key = 2 ∨ key = 3 by omega) with e | e | e | e <;> subst e
  · rw [if_pos rfl]
    by_cases z0 : b = 107
    · rw [if_pos z0]; simp (disch := omega) only [n_M_nameOf, e_M_nameOf_0, e_M_nameOf_1, e_M_nameOf_2, e_M_nameOf_3, e_M_nameOf_4, e_M_nameOf_5, e_M_nameOf_6, e_M_nameOf_7, e_M_nameOf_8, e_M_nameOf_9, e_M_nameOf_10, e_M_nameOf_11, e_M_nameOf_12, e_M_nameOf_13, e_M_nameOf_14, e_M_nameOf_15, e_M_nameOf_16, e_M_nameOf_17, e_M_nameOf_18, e_M_nameOf_19, e_M_nameOf_20, e_M_nameOf_21, e_M_nameOf_22, e_M_nameOf_23, e_M_nameOf_24, e_M_nameOf_25, e_M_nameOf_26, e_M_nameOf_27, e_M_nameOf_28, e_M_nameOf_29, e_M_nameOf_30, e_M_nameOf_31, e_M_nameOf_32, lit, nad, nml, bd_s, ct_s, ct_n, a11, a01, aB2, bitA, nlt, nle, neq, dlT, dlF, deT, deF, dqT, dqF, nN, inb, nsb, ndv, nrm, if_true, if_false, ite_true, ite_false, true_and, and_true, and_self, and_false, false_and, or_true, true_or, or_false, false_or, or_self, ↓reduceIte, eq_self, Nat.reduceAdd, Nat.reduceMul, Nat.reduceSub, Nat.reduceDiv, Nat.reduceMod, Nat.zero_add, Nat.mul_zero, not_true_eq_false, not_false_eq_true, up_T, up_F, wr_T, wr_F, ngE, ngE', ngL, ngL', ngQ, ngQ', h17]
    · rw [if_neg z0]
      by_cases z1 : b = 119
      · rw [if_pos z1]; simp (disch := omega) only [n_M_nameOf, e_M_nameOf_0, e_M_nameOf_1, e_M_nameOf_2, e_M_nameOf_3, e_M_nameOf_4, e_M_nameOf_5, e_M_nameOf_6, e_M_nameOf_7, e_M_nameOf_8, e_M_nameOf_9, e_M_nameOf_10, e_M_nameOf_11, e_M_nameOf_12, e_M_nameOf_13, e_M_nameOf_14, e_M_nameOf_15, e_M_nameOf_16, e_M_nameOf_17, e_M_nameOf_18, e_M_nameOf_19, e_M_nameOf_20, e_M_nameOf_21, e_M_nameOf_22, e_M_nameOf_23, e_M_nameOf_24, e_M_nameOf_25, e_M_nameOf_26, e_M_nameOf_27, e_M_nameOf_28, e_M_nameOf_29, e_M_nameOf_30, e_M_nameOf_31, e_M_nameOf_32, lit, nad, nml, bd_s, ct_s, ct_n, a11, a01, aB2, bitA, nlt, nle, neq, dlT, dlF, deT, deF, dqT, dqF, nN, inb, nsb, ndv, nrm, if_true, if_false, ite_true, ite_false, true_and, and_true, and_self, and_false, false_and, or_true, true_or, or_false, false_or, or_self, ↓reduceIte, eq_self, Nat.reduceAdd, Nat.reduceMul, Nat.reduceSub, Nat.reduceDiv, Nat.reduceMod, Nat.zero_add, Nat.mul_zero, not_true_eq_false, not_false_eq_true, up_T, up_F, wr_T, wr_F, ngE, ngE', ngL, ngL', ngQ, ngQ', h17]
      · rw [if_neg z1]
        by_cases z2 : b = 115
        · rw [if_pos z2]; simp (disch := omega) only [n_M_nameOf, e_M_nameOf_0, e_M_nameOf_1, e_M_nameOf_2, e_M_nameOf_3, e_M_nameOf_4, e_M_nameOf_5, e_M_nameOf_6, e_M_nameOf_7, e_M_nameOf_8, e_M_nameOf_9, e_M_nameOf_10, e_M_nameOf_11, e_M_nameOf_12, e_M_nameOf_13, e_M_nameOf_14, e_M_nameOf_15, e_M_nameOf_16, e_M_nameOf_17, e_M_nameOf_18, e_M_nameOf_19, e_M_nameOf_20, e_M_nameOf_21, e_M_nameOf_22, e_M_nameOf_23, e_M_nameOf_24, e_M_nameOf_25, e_M_nameOf_26, e_M_nameOf_27, e_M_nameOf_28, e_M_nameOf_29, e_M_nameOf_30, e_M_nameOf_31, e_M_nameOf_32, lit, nad, nml, bd_s, ct_s, ct_n, a11, a01, aB2, bitA, nlt, nle, neq, dlT, dlF, deT, deF, dqT, dqF, nN, inb, nsb, ndv, nrm, if_true, if_false, ite_true, ite_false, true_and, and_true, and_self, and_false, false_and, or_true, true_or, or_false, false_or, or_self, ↓reduceIte, eq_self, Nat.reduceAdd, Nat.reduceMul, Nat.reduceSub, Nat.reduceDiv, Nat.reduceMod, Nat.zero_add, Nat.mul_zero, not_true_eq_false, not_false_eq_true, up_T, up_F, wr_T, wr_F, ngE, ngE', ngL, ngL', ngQ, ngQ', h17]
        · rw [if_neg z2]; simp (disch := omega) only [n_M_nameOf, e_M_nameOf_0, e_M_nameOf_1, e_M_nameOf_2, e_M_nameOf_3, e_M_nameOf_4, e_M_nameOf_5, e_M_nameOf_6, e_M_nameOf_7, e_M_nameOf_8, e_M_nameOf_9, e_M_nameOf_10, e_M_nameOf_11, e_M_nameOf_12, e_M_nameOf_13, e_M_nameOf_14, e_M_nameOf_15, e_M_nameOf_16, e_M_nameOf_17, e_M_nameOf_18, e_M_nameOf_19, e_M_nameOf_20, e_M_nameOf_21, e_M_nameOf_22, e_M_nameOf_23, e_M_nameOf_24, e_M_nameOf_25, e_M_nameOf_26, e_M_nameOf_27, e_M_nameOf_28, e_M_nameOf_29, e_M_nameOf_30, e_M_nameOf_31, e_M_nameOf_32, lit, nad, nml, bd_s, ct_s, ct_n, a11, a01, aB2, bitA, nlt, nle, neq, dlT, dlF, deT, deF, dqT, dqF, nN, inb, nsb, ndv, nrm, if_true, if_false, ite_true, ite_false, true_and, and_true, and_self, and_false, false_and, or_true, true_or, or_false, false_or, or_self, ↓reduceIte, eq_self, Nat.reduceAdd, Nat.reduceMul, Nat.reduceSub, Nat.reduceDiv, Nat.reduceMod, Nat.zero_add, Nat.mul_zero, not_true_eq_false, not_false_eq_true, up_T, up_F, wr_T, wr_F, ngE, ngE', ngL, ngL', ngQ, ngQ', h17]
  · rw [if_neg (by decide), if_pos rfl]
    by_cases z0 : b = 119
    · rw [if_pos z0]; simp (disch := omega) only [n_M_nameOf, e_M_nameOf_0, e_M_nameOf_1, e_M_nameOf_2, e_M_nameOf_3, e_M_nameOf_4, e_M_nameOf_5, e_M_nameOf_6, e_M_nameOf_7, e_M_nameOf_8, e_M_nameOf_9, e_M_nameOf_10, e_M_nameOf_11, e_M_nameOf_12, e_M_nameOf_13, e_M_nameOf_14, e_M_nameOf_15, e_M_nameOf_16, e_M_nameOf_17, e_M_nameOf_18, e_M_nameOf_19, e_M_nameOf_20, e_M_nameOf_21, e_M_nameOf_22, e_M_nameOf_23, e_M_nameOf_24, e_M_nameOf_25, e_M_nameOf_26, e_M_nameOf_27, e_M_nameOf_28, e_M_nameOf_29, e_M_nameOf_30, e_M_nameOf_31, e_M_nameOf_32, lit, nad, nml, bd_s, ct_s, ct_n, a11, a01, aB2, bitA, nlt, nle, neq, dlT, dlF, deT, deF, dqT, dqF, nN, inb, nsb, ndv, nrm, if_true, if_false, ite_true, ite_false, true_and, and_true, and_self, and_false, false_and, or_true, true_or, or_false, false_or, or_self, ↓reduceIte, eq_self, Nat.reduceAdd, Nat.reduceMul, Nat.reduceSub, Nat.reduceDiv, Nat.reduceMod, Nat.zero_add, Nat.mul_zero, not_true_eq_false, not_false_eq_true, up_T, up_F, wr_T, wr_F, ngE, ngE', ngL, ngL', ngQ, ngQ', h17]
    · rw [if_neg z0]
      by_cases z1 : b = 98
      · rw [if_pos z1]; simp (disch := omega) only [n_M_nameOf, e_M_nameOf_0, e_M_nameOf_1, e_M_nameOf_2, e_M_nameOf_3, e_M_nameOf_4, e_M_nameOf_5, e_M_nameOf_6, e_M_nameOf_7, e_M_nameOf_8, e_M_nameOf_9, e_M_nameOf_10, e_M_nameOf_11, e_M_nameOf_12, e_M_nameOf_13, e_M_nameOf_14, e_M_nameOf_15, e_M_nameOf_16, e_M_nameOf_17, e_M_nameOf_18, e_M_nameOf_19, e_M_nameOf_20, e_M_nameOf_21, e_M_nameOf_22, e_M_nameOf_23, e_M_nameOf_24, e_M_nameOf_25, e_M_nameOf_26, e_M_nameOf_27, e_M_nameOf_28, e_M_nameOf_29, e_M_nameOf_30, e_M_nameOf_31, e_M_nameOf_32, lit, nad, nml, bd_s, ct_s, ct_n, a11, a01, aB2, bitA, nlt, nle, neq, dlT, dlF, deT, deF, dqT, dqF, nN, inb, nsb, ndv, nrm, if_true, if_false, ite_true, ite_false, true_and, and_true, and_self, and_false, false_and, or_true, true_or, or_false, false_or, or_self, ↓reduceIte, eq_self, Nat.reduceAdd, Nat.reduceMul, Nat.reduceSub, Nat.reduceDiv, Nat.reduceMod, Nat.zero_add, Nat.mul_zero, not_true_eq_false, not_false_eq_true, up_T, up_F, wr_T, wr_F, ngE, ngE', ngL, ngL', ngQ, ngQ', h17]
      · rw [if_neg z1]
        by_cases z2 : b = 121
        · rw [if_pos z2]; simp (disch := omega) only [n_M_nameOf, e_M_nameOf_0, e_M_nameOf_1, e_M_nameOf_2, e_M_nameOf_3, e_M_nameOf_4, e_M_nameOf_5, e_M_nameOf_6, e_M_nameOf_7, e_M_nameOf_8, e_M_nameOf_9, e_M_nameOf_10, e_M_nameOf_11, e_M_nameOf_12, e_M_nameOf_13, e_M_nameOf_14, e_M_nameOf_15, e_M_nameOf_16, e_M_nameOf_17, e_M_nameOf_18, e_M_nameOf_19, e_M_nameOf_20, e_M_nameOf_21, e_M_nameOf_22, e_M_nameOf_23, e_M_nameOf_24, e_M_nameOf_25, e_M_nameOf_26, e_M_nameOf_27, e_M_nameOf_28, e_M_nameOf_29, e_M_nameOf_30, e_M_nameOf_31, e_M_nameOf_32, lit, nad, nml, bd_s, ct_s, ct_n, a11, a01, aB2, bitA, nlt, nle, neq, dlT, dlF, deT, deF, dqT, dqF, nN, inb, nsb, ndv, nrm, if_true, if_false, ite_true, ite_false, true_and, and_true, and_self, and_false, false_and, or_true, true_or, or_false, false_or, or_self, ↓reduceIte, eq_self, Nat.reduceAdd, Nat.reduceMul, Nat.reduceSub, Nat.reduceDiv, Nat.reduceMod, Nat.zero_add, Nat.mul_zero, not_true_eq_false, not_false_eq_true, up_T, up_F, wr_T, wr_F, ngE, ngE', ngL, ngL', ngQ, ngQ', h17]
        · rw [if_neg z2]; simp (disch := omega) only [n_M_nameOf, e_M_nameOf_0, e_M_nameOf_1, e_M_nameOf_2, e_M_nameOf_3, e_M_nameOf_4, e_M_nameOf_5, e_M_nameOf_6, e_M_nameOf_7, e_M_nameOf_8, e_M_nameOf_9, e_M_nameOf_10, e_M_nameOf_11, e_M_nameOf_12, e_M_nameOf_13, e_M_nameOf_14, e_M_nameOf_15, e_M_nameOf_16, e_M_nameOf_17, e_M_nameOf_18, e_M_nameOf_19, e_M_nameOf_20, e_M_nameOf_21, e_M_nameOf_22, e_M_nameOf_23, e_M_nameOf_24, e_M_nameOf_25, e_M_nameOf_26, e_M_nameOf_27, e_M_nameOf_28, e_M_nameOf_29, e_M_nameOf_30, e_M_nameOf_31, e_M_nameOf_32, lit, nad, nml, bd_s, ct_s, ct_n, a11, a01, aB2, bitA, nlt, nle, neq, dlT, dlF, deT, deF, dqT, dqF, nN, inb, nsb, ndv, nrm, if_true, if_false, ite_true, ite_false, true_and, and_true, and_self, and_false, false_and, or_true, true_or, or_false, false_or, or_self, ↓reduceIte, eq_self, Nat.reduceAdd, Nat.reduceMul, Nat.reduceSub, Nat.reduceDiv, Nat.reduceMod, Nat.zero_add, Nat.mul_zero, not_true_eq_false, not_false_eq_true, up_T, up_F, wr_T, wr_F, ngE, ngE', ngL, ngL', ngQ, ngQ', h17]
  · rw [if_neg (by decide), if_neg (by decide), if_pos rfl]
    by_cases z0 : b = 107
    · rw [if_pos z0]; simp (disch := omega) only [n_M_nameOf, e_M_nameOf_0, e_M_nameOf_1, e_M_nameOf_2, e_M_nameOf_3, e_M_nameOf_4, e_M_nameOf_5, e_M_nameOf_6, e_M_nameOf_7, e_M_nameOf_8, e_M_nameOf_9, e_M_nameOf_10, e_M_nameOf_11, e_M_nameOf_12, e_M_nameOf_13, e_M_nameOf_14, e_M_nameOf_15, e_M_nameOf_16, e_M_nameOf_17, e_M_nameOf_18, e_M_nameOf_19, e_M_nameOf_20, e_M_nameOf_21, e_M_nameOf_22, e_M_nameOf_23, e_M_nameOf_24, e_M_nameOf_25, e_M_nameOf_26, e_M_nameOf_27, e_M_nameOf_28, e_M_nameOf_29, e_M_nameOf_30, e_M_nameOf_31, e_M_nameOf_32, lit, nad, nml, bd_s, ct_s, ct_n, a11, a01, aB2, bitA, nlt, nle, neq, dlT, dlF, deT, deF, dqT, dqF, nN, inb, nsb, ndv, nrm, if_true, if_false, ite_true, ite_false, true_and, and_true, and_self, and_false, false_and, or_true, true_or, or_false, false_or, or_self, ↓reduceIte, eq_self, Nat.reduceAdd, Nat.reduceMul, Nat.reduceSub, Nat.reduceDiv, Nat.reduceMod, Nat.zero_add, Nat.mul_zero, not_true_eq_false, not_false_eq_true, up_T, up_F, wr_T, wr_F, ngE, ngE', ngL, ngL', ngQ, ngQ', h17]
    · rw [if_neg z0]
      by_cases z1 : b = 108
      · rw [if_pos z1]; simp (disch := omega) only [n_M_nameOf, e_M_nameOf_0, e_M_nameOf_1, e_M_nameOf_2, e_M_nameOf_3, e_M_nameOf_4, e_M_nameOf_5, e_M_nameOf_6, e_M_nameOf_7, e_M_nameOf_8, e_M_nameOf_9, e_M_nameOf_10, e_M_nameOf_11, e_M_nameOf_12, e_M_nameOf_13, e_M_nameOf_14, e_M_nameOf_15, e_M_nameOf_16, e_M_nameOf_17, e_M_nameOf_18, e_M_nameOf_19, e_M_nameOf_20, e_M_nameOf_21, e_M_nameOf_22, e_M_nameOf_23, e_M_nameOf_24, e_M_nameOf_25, e_M_nameOf_26, e_M_nameOf_27, e_M_nameOf_28, e_M_nameOf_29, e_M_nameOf_30, e_M_nameOf_31, e_M_nameOf_32, lit, nad, nml, bd_s, ct_s, ct_n, a11, a01, aB2, bitA, nlt, nle, neq, dlT, dlF, deT, deF, dqT, dqF, nN, inb, nsb, ndv, nrm, if_true, if_false, ite_true, ite_false, true_and, and_true, and_self, and_false, false_and, or_true, true_or, or_false, false_or, or_self, ↓reduceIte, eq_self, Nat.reduceAdd, Nat.reduceMul, Nat.reduceSub, Nat.reduceDiv, Nat.reduceMod, Nat.zero_add, Nat.mul_zero, not_true_eq_false, not_false_eq_true, up_T, up_F, wr_T, wr_F, ngE, ngE', ngL, ngL', ngQ, ngQ', h17]
      · rw [if_neg z1]
        by_cases z2 : b = 111
        · rw [if_pos z2]; simp (disch := omega) only [n_M_nameOf, e_M_nameOf_0, e_M_nameOf_1, e_M_nameOf_2, e_M_nameOf_3, e_M_nameOf_4, e_M_nameOf_5, e_M_nameOf_6, e_M_nameOf_7, e_M_nameOf_8, e_M_nameOf_9, e_M_nameOf_10, e_M_nameOf_11, e_M_nameOf_12, e_M_nameOf_13, e_M_nameOf_14, e_M_nameOf_15, e_M_nameOf_16, e_M_nameOf_17, e_M_nameOf_18, e_M_nameOf_19, e_M_nameOf_20, e_M_nameOf_21, e_M_nameOf_22, e_M_nameOf_23, e_M_nameOf_24, e_M_nameOf_25, e_M_nameOf_26, e_M_nameOf_27, e_M_nameOf_28, e_M_nameOf_29, e_M_nameOf_30, e_M_nameOf_31, e_M_nameOf_32, lit, nad, nml, bd_s, ct_s, ct_n, a11, a01, aB2, bitA, nlt, nle, neq, dlT, dlF, deT, deF, dqT, dqF, nN, inb, nsb, ndv, nrm, if_true, if_false, ite_true, ite_false, true_and, and_true, and_self, and_false, false_and, or_true, true_or, or_false, false_or, or_self, ↓reduceIte, eq_self, Nat.reduceAdd, Nat.reduceMul, Nat.reduceSub, Nat.reduceDiv, Nat.reduceMod, Nat.zero_add, Nat.mul_zero, not_true_eq_false, not_false_eq_true, up_T, up_F, wr_T, wr_F, ngE, ngE', ngL, ngL', ngQ, ngQ', h17]
        · rw [if_neg z2]; simp (disch := omega) only [n_M_nameOf, e_M_nameOf_0, e_M_nameOf_1, e_M_nameOf_2, e_M_nameOf_3, e_M_nameOf_4, e_M_nameOf_5, e_M_nameOf_6, e_M_nameOf_7, e_M_nameOf_8, e_M_nameOf_9, e_M_nameOf_10, e_M_nameOf_11, e_M_nameOf_12, e_M_nameOf_13, e_M_nameOf_14, e_M_nameOf_15, e_M_nameOf_16, e_M_nameOf_17, e_M_nameOf_18, e_M_nameOf_19, e_M_nameOf_20, e_M_nameOf_21, e_M_nameOf_22, e_M_nameOf_23, e_M_nameOf_24, e_M_nameOf_25, e_M_nameOf_26, e_M_nameOf_27, e_M_nameOf_28, e_M_nameOf_29, e_M_nameOf_30, e_M_nameOf_31, e_M_nameOf_32, lit, nad, nml, bd_s, ct_s, ct_n, a11, a01, aB2, bitA, nlt, nle, neq, dlT, dlF, deT, deF, dqT, dqF, nN, inb, nsb, ndv, nrm, if_true, if_false, ite_true, ite_false, true_and, and_true, and_self, and_false, false_and, or_true, true_or, or_false, false_or, or_self, ↓reduceIte, eq_self, Nat.reduceAdd, Nat.reduceMul, Nat.reduceSub, Nat.reduceDiv, Nat.reduceMod, Nat.zero_add, Nat.mul_zero, not_true_eq_false, not_false_eq_true, up_T, up_F, wr_T, wr_F, ngE, ngE', ngL, ngL', ngQ, ngQ', h17]
  · rw [if_neg (by decide), if_neg (by decide), if_neg (by decide)]
    by_cases z0 : b = 104
    · rw [if_pos z0]; simp (disch := omega) only [n_M_nameOf, e_M_nameOf_0, e_M_nameOf_1, e_M_nameOf_2, e_M_nameOf_3, e_M_nameOf_4, e_M_nameOf_5, e_M_nameOf_6, e_M_nameOf_7, e_M_nameOf_8, e_M_nameOf_9, e_M_nameOf_10, e_M_nameOf_11, e_M_nameOf_12, e_M_nameOf_13, e_M_nameOf_14, e_M_nameOf_15, e_M_nameOf_16, e_M_nameOf_17, e_M_nameOf_18, e_M_nameOf_19, e_M_nameOf_20, e_M_nameOf_21, e_M_nameOf_22, e_M_nameOf_23, e_M_nameOf_24, e_M_nameOf_25, e_M_nameOf_26, e_M_nameOf_27, e_M_nameOf_28, e_M_nameOf_29, e_M_nameOf_30, e_M_nameOf_31, e_M_nameOf_32, lit, nad, nml, bd_s, ct_s, ct_n, a11, a01, aB2, bitA, nlt, nle, neq, dlT, dlF, deT, deF, dqT, dqF, nN, inb, nsb, ndv, nrm, if_true, if_false, ite_true, ite_false, true_and, and_true, and_self, and_false, false_and, or_true, true_or, or_false, false_or, or_self, ↓reduceIte, eq_self, Nat.reduceAdd, Nat.reduceMul, Nat.reduceSub, Nat.reduceDiv, Nat.reduceMod, Nat.zero_add, Nat.mul_zero, not_true_eq_false, not_false_eq_true, up_T, up_F, wr_T, wr_F, ngE, ngE', ngL, ngL', ngQ, ngQ', h17]
    · rw [if_neg z0]
      by_cases z1 : b = 119
      · rw [if_pos z1]; simp (disch := omega) only [n_M_nameOf, e_M_nameOf_0, e_M_nameOf_1, e_M_nameOf_2, e_M_nameOf_3, e_M_nameOf_4, e_M_nameOf_5, e_M_nameOf_6, e_M_nameOf_7, e_M_nameOf_8, e_M_nameOf_9, e_M_nameOf_10, e_M_nameOf_11, e_M_nameOf_12, e_M_nameOf_13, e_M_nameOf_14, e_M_nameOf_15, e_M_nameOf_16, e_M_nameOf_17, e_M_nameOf_18, e_M_nameOf_19, e_M_nameOf_20, e_M_nameOf_21, e_M_nameOf_22, e_M_nameOf_23, e_M_nameOf_24, e_M_nameOf_25, e_M_nameOf_26, e_M_nameOf_27, e_M_nameOf_28, e_M_nameOf_29, e_M_nameOf_30, e_M_nameOf_31, e_M_nameOf_32, lit, nad, nml, bd_s, ct_s, ct_n, a11, a01, aB2, bitA, nlt, nle, neq, dlT, dlF, deT, deF, dqT, dqF, nN, inb, nsb, ndv, nrm, if_true, if_false, ite_true, ite_false, true_and, and_true, and_self, and_false, false_and, or_true, true_or, or_false, false_or, or_self, ↓reduceIte, eq_self, Nat.reduceAdd, Nat.reduceMul, Nat.reduceSub, Nat.reduceDiv, Nat.reduceMod, Nat.zero_add, Nat.mul_zero, not_true_eq_false, not_false_eq_true, up_T, up_F, wr_T, wr_F, ngE, ngE', ngL, ngL', ngQ, ngQ', h17]
      · rw [if_neg z1]
        by_cases z2 : b = 100
        · rw [if_pos z2]; simp (disch := omega) only [n_M_nameOf, e_M_nameOf_0, e_M_nameOf_1, e_M_nameOf_2, e_M_nameOf_3, e_M_nameOf_4, e_M_nameOf_5, e_M_nameOf_6, e_M_nameOf_7, e_M_nameOf_8, e_M_nameOf_9, e_M_nameOf_10, e_M_nameOf_11, e_M_nameOf_12, e_M_nameOf_13, e_M_nameOf_14, e_M_nameOf_15, e_M_nameOf_16, e_M_nameOf_17, e_M_nameOf_18, e_M_nameOf_19, e_M_nameOf_20, e_M_nameOf_21, e_M_nameOf_22, e_M_nameOf_23, e_M_nameOf_24, e_M_nameOf_25, e_M_nameOf_26, e_M_nameOf_27, e_M_nameOf_28, e_M_nameOf_29, e_M_nameOf_30, e_M_nameOf_31, e_M_nameOf_32, lit, nad, nml, bd_s, ct_s, ct_n, a11, a01, aB2, bitA, nlt, nle, neq, dlT, dlF, deT, deF, dqT, dqF, nN, inb, nsb, ndv, nrm, if_true, if_false, ite_true, ite_false, true_and, and_true, and_self, and_false, false_and, or_true, true_or, or_false, false_or, or_self, ↓reduceIte, eq_self, Nat.reduceAdd, Nat.reduceMul, Nat.reduceSub, Nat.reduceDiv, Nat.reduceMod, Nat.zero_add, Nat.mul_zero, not_true_eq_false, not_false_eq_true, up_T, up_F, wr_T, wr_F, ngE, ngE', ngL, ngL', ngQ, ngQ', h17]
        · rw [if_neg z2]; simp (disch := omega) only [n_M_nameOf, e_M_nameOf_0, e_M_nameOf_1, e_M_nameOf_2, e_M_nameOf_3, e_M_nameOf_4, e_M_nameOf_5, e_M_nameOf_6, e_M_nameOf_7, e_M_nameOf_8, e_M_nameOf_9, e_M_nameOf_10, e_M_nameOf_11, e_M_nameOf_12, e_M_nameOf_13, e_M_nameOf_14, e_M_nameOf_15, e_M_nameOf_16, e_M_nameOf_17, e_M_nameOf_18, e_M_nameOf_19, e_M_nameOf_20, e_M_nameOf_21, e_M_nameOf_22, e_M_nameOf_23, e_M_nameOf_24, e_M_nameOf_25, e_M_nameOf_26, e_M_nameOf_27, e_M_nameOf_28, e_M_nameOf_29, e_M_nameOf_30, e_M_nameOf_31, e_M_nameOf_32, lit, nad, nml, bd_s, ct_s, ct_n, a11, a01, aB2, bitA, nlt, nle, neq, dlT, dlF, deT, deF, dqT, dqF, nN, inb, nsb, ndv, nrm, if_true, if_false, ite_true, ite_false, true_and, and_true, and_self, and_false, false_and, or_true, true_or, or_false, false_or, or_self, ↓reduceIte, eq_self, Nat.reduceAdd, Nat.reduceMul, Nat.reduceSub, Nat.reduceDiv, Nat.reduceMod, Nat.zero_add, Nat.mul_zero, not_true_eq_false, not_false_eq_true, up_T, up_F, wr_T, wr_F, ngE, ngE', ngL, ngL', ngQ, ngQ', h17]
