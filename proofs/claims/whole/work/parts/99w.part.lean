/-! The class's parts. -/
theorem RR_not {T : Nat → Nat} {n key : Nat} {x : LX} {W C : List Nat} {a o k : Nat} {t : Nat → Bool} {r : RT} (h1 : x.1 = 33) (h2 : k < 8) (h : RR T n key (nxT T n x) true (20033 :: W) C a o (cnN (20033 :: W)) t r) : RR T n key x true W C a o k t r := by
  obtain ⟨f, h⟩ := h
  exact ⟨f + 1, by rw [rn, if_pos ⟨h1, h2⟩]; exact h⟩
theorem RR_open {T : Nat → Nat} {n key : Nat} {x : LX} {W C : List Nat} {a o k : Nat} {t : Nat → Bool} {r : RT} (h1 : x.1 = 40) (h2 : o < 8) (h : RR T n key (nxT T n x) true (20040 :: W) C a (o + 1) (cnN (20040 :: W)) (uB t (o + 1) false) r) : RR T n key x true W C a o k t r := by
  obtain ⟨f, h⟩ := h
  exact ⟨f + 1, by rw [rn, if_neg (by omega), if_pos ⟨h1, h2⟩]; exact h⟩
theorem RR_opd {T : Nat → Nat} {n key c : Nat} {x : LX} {W C : List Nat} {a o k : Nat} {t : Nat → Bool} {r : RT} (h1 : x.1 = 257 ∨ x.1 = 258) (h2 : opd T key x = some c) (h : RR T n key (nxT T n x) false (stl 6 W (C ++ [c])).1 (stl 6 W (C ++ [c])).2 (a + 1) o (cnN (stl 6 W (C ++ [c])).1) t r) : RR T n key x true W C a o k t r := by
  obtain ⟨f, h⟩ := h
  exact ⟨f + 1, by rw [rn, if_neg (by omega), if_neg (by omega), h2]; exact h⟩
theorem RR_bad {T : Nat → Nat} {n key : Nat} {x : LX} {W C : List Nat} {a o k : Nat} {t : Nat → Bool} (h1 : ¬ (x.1 = 33 ∧ k < 8)) (h2 : ¬ (x.1 = 40 ∧ o < 8)) (h3 : opd T key x = none) : RR T n key x true W C a o k t (false, x.2.1, [], 0) := ⟨1, by rw [rn, if_neg h1, if_neg h2, h3]⟩
theorem RR_end {T : Nat → Nat} {n key : Nat} {x : LX} {W C : List Nat} {a k : Nat} {t : Nat → Bool} (h1 : x.1 = 256) : RR T n key x false W C a 0 k t (true, 0, (stl 0 W C).2, a) := ⟨1, by rw [rn, if_pos h1, if_pos rfl]⟩
theorem RR_soon {T : Nat → Nat} {n key : Nat} {x : LX} {W C : List Nat} {a o k : Nat} {t : Nat → Bool} (h1 : x.1 = 256) (h2 : o ≠ 0) : RR T n key x false W C a o k t (false, x.2.1, [], 0) := ⟨1, by rw [rn, if_pos h1, if_neg h2]⟩
theorem RR_close {T : Nat → Nat} {n key : Nat} {x : LX} {W C : List Nat} {a o k : Nat} {t : Nat → Bool} {r : RT} (h1 : x.1 = 41) (h : RR T n key (nxT T n x) false (stl 6 (stl 0 W C).1.tail (stl 0 W C).2).1 (stl 6 (stl 0 W C).1.tail (stl 0 W C).2).2 a o (cnN (stl 6 (stl 0 W C).1.tail (stl 0 W C).2).1) t r) : RR T n key x false W C a (o + 1) k t r := by
  obtain ⟨f, h⟩ := h
  exact ⟨f + 1, by rw [rn, if_neg (by omega), if_pos ⟨h1, by omega⟩]; exact h⟩
theorem RR_badS {T : Nat → Nat} {n key : Nat} {x : LX} {W C : List Nat} {a o k : Nat} {t : Nat → Bool} (h1 : x.1 ≠ 256) (h2 : ¬ (x.1 = 41 ∧ 0 < o)) (h3 : rkS x.1 = 0 ∨ (rkS x.1 = 3 ∧ t o = true)) : RR T n key x false W C a o k t (false, x.2.1, [], 0) := ⟨1, by rw [rn, if_neg h1, if_neg h2, if_pos h3]⟩
theorem RR_sign {T : Nat → Nat} {n key L : Nat} {x : LX} {V W C : List Nat} {a o k : Nat} {t : Nat → Bool} {r : RT} (hL : rkS x.1 = L) (h0 : L ≠ 0) (h3 : L = 3 → t o = false) (hV : ∀ c ∈ V, bnC c ∧ L ≤ rkC c) (hW : St L W) (h : RR T n key (nxT T n x) true ((20000 + x.1) :: W) (C ++ V) a o k (uB t o (decide (L = 3) || (decide (3 < L) && t o))) r) : RR T n key x false (V ++ W) C a o k t r := by
  obtain ⟨f, h⟩ := h
  have hs := rkS_0 (b := x.1) (by omega)
  have e : stl (rkS x.1) (V ++ W) C = (W, C ++ V) := by
    rw [hL, stl_a (fun c hc => ⟨(hV c hc).1.1, (hV c hc).2⟩)]
    exact hW _
  refine ⟨f + 1, ?_⟩
  rw [rn, if_neg (by omega), if_neg (by omega), if_neg, e, hL]
  · exact h
  · rintro (q | ⟨q1, q2⟩)
    · omega
    · rw [h3 (by omega)] at q2; cases q2
theorem hg_a : ∀ {l : List Nat} {c h h2 : Nat}, hgt l h = some h2 → hgt (l ++ [c]) h = hgt [c] h2
  | [], _, _, _, e => by cases e; rfl
  | d :: l, c, h, h2, e => by
    rw [List.cons_append, hgt]
    rw [hgt] at e
    split
    · rename_i q; rw [if_pos q] at e; exact hg_a e
    · rename_i q
      rw [if_neg q] at e
      split
      · rename_i q2
        rw [if_pos q2] at e
        split
        · rename_i q3; rw [if_pos q3] at e; exact hg_a e
        · rename_i q3; rw [if_neg q3] at e; cases e
      · rename_i q2
        rw [if_neg q2] at e
        split
        · rename_i q3; rw [if_pos q3] at e; exact hg_a e
        · rename_i q3; rw [if_neg q3] at e; cases e
theorem hg_o {l : List Nat} {c h : Nat} (e : hgt l 0 = some h) (hc : c < 20000) : hgt (l ++ [c]) 0 = some (h + 1) := by
  rw [hg_a e, hgt, if_pos hc]; rfl
theorem hg_n {l : List Nat} {h : Nat} (e : hgt l 0 = some (h + 1)) : hgt (l ++ [20033]) 0 = some (h + 1) := by
  rw [hg_a e, hgt, if_neg (by decide), if_pos rfl, if_pos (by omega)]; rfl
theorem hg_b {l : List Nat} {c h : Nat} (e : hgt l 0 = some (h + 2)) (hc : 20000 ≤ c) (h3 : c ≠ 20033) : hgt (l ++ [c]) 0 = some (h + 1) := by
  rw [hg_a e, hgt, if_neg (by omega), if_neg h3, if_pos (by omega)]; rfl
def okL (C : List Nat) : Prop := ∀ c ∈ C, okC c
theorem okL_a {C : List Nat} {c : Nat} (h : okL C) (hc : okC c) : okL (C ++ [c]) := fun d hd => by
  rw [List.mem_append, List.mem_singleton] at hd
  rcases hd with q | q
  · exact h d q
  · rw [q]; exact hc
theorem ok_s {b : Nat} (h : rkS b ≠ 0) : okC (20000 + b) := by
  have := rkS_0 h
  unfold okC
  omega
theorem sx_u : ∀ b, b < 256 → ((nI b).toUInt32 % 65536).toInt32 = nI b := by decide +kernel
theorem sx_n : ∀ k, k < 4 → ∀ b, b < 256 → mm_six (4 + k) (nI b) = (match nmK k b with
    | some i => nI i
    | none => -nI 1) := by decide +kernel
theorem s_readNumber (d n : Nat) (T : Nat → Nat) (kx : Int32) (x : LX) (C : List Nat) (a : Nat) (I : mm_I) (h : RD T n kx x C a I) (hC : C.length < 96) (hw : WX T n x) (h8 : x.1 = 258) : (x.2.2 - x.2.1 ≤ 4 ∧ ∃ I', Sn (d + 4) q_Reader_readNumber [.inr (5, 0)] I = some (some (.inl (nI 1)), (sh0, I')) ∧ RD T n kx (nxT T n x) (C ++ [nmT T x.2.1 (x.2.2 - x.2.1)]) (a + 1) I' ∧ eqo [5, 30] I I') ∨ (¬ x.2.2 - x.2.1 ≤ 4 ∧ Sn (d + 4) q_Reader_readNumber [.inr (5, 0)] I = some (some (.inl (nI 0)), (sh0, I))) := by
  have hx1 := hw.1
  have hx2 := hw.2.1
  obtain ⟨-, -, q | ⟨-, q1, -, -, q2⟩⟩ := hw
  · omega
  have hn := h.1.1
  have l7 : I 5 0 7 = nI x.2.1 := h.2.1.2.1
  have l8 : I 5 0 8 = nI x.2.2 := h.2.1.2.2
  by_cases e : x.2.2 - x.2.1 ≤ 4
  · left
    refine ⟨e, ?_⟩
    obtain ⟨I', a1, a2, a3⟩ := s_readOperand d n (nmT T x.2.1 (x.2.2 - x.2.1)) T kx x C a I h hC ⟨hx1, hx2⟩
    refine ⟨I', ?_, a2, a3⟩
    have st : Sn (d + 4) q_Reader_readNumber [.inr (5, 0)] I = Rn (d + 3) q_Reader_readNumber 3 [some (.inr (5, 0)), some (.inl (nI (nmT T x.2.1 0))), some (.inl (nI (x.2.1 + 0)))] [] I := by
      simp (disch := omega) only [n_Reader_readNumber, e_Reader_readNumber_0, e_Reader_readNumber_2, lit, nad, nml, bd_s, ct_s, ct_n, a11, a01, aB2, bitA, nlt, nle, neq, dlT, dlF, deT, deF, dqT, dqF, nN, inb, nsb, ndv, nrm, if_true, if_false, ite_true, ite_false, true_and, and_true, and_self, and_false, false_and, or_true, true_or, or_false, false_or, or_self, ↓reduceIte, eq_self, Nat.reduceAdd, Nat.reduceMul, Nat.reduceSub, Nat.reduceDiv, Nat.reduceMod, Nat.zero_add, Nat.mul_zero, not_true_eq_false, not_false_eq_true, up_T, up_F, wr_T, wr_F, ngE, ngE', ngL, ngL', ngQ, ngQ', l7, l8, nmT, Nat.add_zero]
    rw [st]
    refine lpX (n := x.2.2 - x.2.1) (σ := Unit) (fun i _ => Rn (d + 3) q_Reader_readNumber 3 [some (.inr (5, 0)), some (.inl (nI (nmT T x.2.1 i))), some (.inl (nI (x.2.1 + i)))] [] I) (fun _ _ => True) (fun q => q = some (some (.inl (nI 1)), (sh0, I'))) (fun i _ hi _ => Or.inr ⟨(), trivial, ?_⟩) (fun _ _ => ?_) 0 () (Nat.zero_le _) trivial
    · have g := q2 h8 (x.2.1 + i) (by omega) (by omega)
      have l29 := (h.1.2.2 (x.2.1 + i) (by omega)).2
      have b := nmT_b (T := T) (s := x.2.1) (k := i) (fun j hj => (q2 h8 (x.2.1 + j) (by omega) (by omega)).2)
      have b2 : 10 ^ i ≤ 10 ^ 4 := Nat.pow_le_pow_right (by decide) (by omega)
      have e48 : nmT T x.2.1 i * 10 + T (x.2.1 + i) - 48 = nmT T x.2.1 (i + 1) := by rw [nmT]; omega
      simp (disch := omega) only [e_Reader_readNumber_4, e_Reader_readNumber_3 (x2 := nI (x.2.1 + i)), lit, nad, nml, bd_s, ct_s, ct_n, a11, a01, aB2, bitA, nlt, nle, neq, dlT, dlF, deT, deF, dqT, dqF, nN, inb, nsb, ndv, nrm, if_true, if_false, ite_true, ite_false, true_and, and_true, and_self, and_false, false_and, or_true, true_or, or_false, false_or, or_self, ↓reduceIte, eq_self, Nat.reduceAdd, Nat.reduceMul, Nat.reduceSub, Nat.reduceDiv, Nat.reduceMod, Nat.zero_add, Nat.mul_zero, not_true_eq_false, not_false_eq_true, up_T, up_F, wr_T, wr_F, ngE, ngE', ngL, ngL', ngQ, ngQ', l8, l29, e48, Nat.add_assoc]
    · have : x.2.1 + (x.2.2 - x.2.1) = x.2.2 := by omega
      rw [this]
      simp (disch := omega) only [e_Reader_readNumber_3, e_Reader_readNumber_5, e_Reader_readNumber_6, lit, nad, nml, bd_s, ct_s, ct_n, a11, a01, aB2, bitA, nlt, nle, neq, dlT, dlF, deT, deF, dqT, dqF, nN, inb, nsb, ndv, nrm, if_true, if_false, ite_true, ite_false, true_and, and_true, and_self, and_false, false_and, or_true, true_or, or_false, false_or, or_self, ↓reduceIte, eq_self, Nat.reduceAdd, Nat.reduceMul, Nat.reduceSub, Nat.reduceDiv, Nat.reduceMod, Nat.zero_add, Nat.mul_zero, not_true_eq_false, not_false_eq_true, up_T, up_F, wr_T, wr_F, ngE, ngE', ngL, ngL', ngQ, ngQ', l8, a1]
  · right
    refine ⟨e, ?_⟩
    simp (disch := omega) only [n_Reader_readNumber, e_Reader_readNumber_0, e_Reader_readNumber_1, lit, nad, nml, bd_s, ct_s, ct_n, a11, a01, aB2, bitA, nlt, nle, neq, dlT, dlF, deT, deF, dqT, dqF, nN, inb, nsb, ndv, nrm, if_true, if_false, ite_true, ite_false, true_and, and_true, and_self, and_false, false_and, or_true, true_or, or_false, false_or, or_self, ↓reduceIte, eq_self, Nat.reduceAdd, Nat.reduceMul, Nat.reduceSub, Nat.reduceDiv, Nat.reduceMod, Nat.zero_add, Nat.mul_zero, not_true_eq_false, not_false_eq_true, up_T, up_F, wr_T, wr_F, ngE, ngE', ngL, ngL', ngQ, ngQ', l7, l8]
theorem s_namesOf (d k : Nat) (I : mm_I) (hk : k < 4) : Sn (d + 1) q_Reader_namesOf [.inl (nI k)] I = some (some (.inr (13, 4 + k)), (sh0, I)) := by
  rcases (show k = 0 ∨ k = 1 ∨ k = 2 ∨ k = 3 by omega) with e | e | e | e <;> subst e <;> simp (disch := omega) only [n_Reader_namesOf, e_Reader_namesOf_0, e_Reader_namesOf_1, e_Reader_namesOf_2, e_Reader_namesOf_3, e_Reader_namesOf_4, lit, nad, nml, bd_s, ct_s, ct_n, a11, a01, aB2, bitA, nlt, nle, neq, dlT, dlF, deT, deF, dqT, dqF, nN, inb, nsb, ndv, nrm, if_true, if_false, ite_true, ite_false, true_and, and_true, and_self, and_false, false_and, or_true, true_or, or_false, false_or, or_self, ↓reduceIte, eq_self, Nat.reduceAdd, Nat.reduceMul, Nat.reduceSub, Nat.reduceDiv, Nat.reduceMod, Nat.zero_add, Nat.mul_zero, not_true_eq_false, not_false_eq_true, up_T, up_F, wr_T, wr_F, ngE, ngE', ngL, ngL', ngQ, ngQ']
theorem s_readName (d n key : Nat) (T : Nat → Nat) (x : LX) (C : List Nat) (a : Nat) (I : mm_I) (h : RD T n (nI key) x C a I) (hk : key < 4) (hC : C.length < 96) (hw : WX T n x) (h7 : x.1 = 257) : (∃ i, x.2.2 - x.2.1 = 1 ∧ nmK key (T x.2.1) = some i ∧ ∃ I', Sn (d + 4) q_Reader_readName [.inr (5, 0)] I = some (some (.inl (nI 1)), (sh0, I')) ∧ RD T n (nI key) (nxT T n x) (C ++ [10000 + i]) (a + 1) I' ∧ eqo [5, 30] I I') ∨ ((x.2.2 - x.2.1 = 1 → nmK key (T x.2.1) = none) ∧ Sn (d + 4) q_Reader_readName [.inr (5, 0)] I = some (some (.inl (nI 0)), (sh0, I))) := by
  have hx1 := hw.1
  have hx2 := hw.2.1
  obtain ⟨-, -, q | ⟨-, q1, -, -, q2⟩⟩ := hw
  · omega
  have hn := h.1.1
  have l5 : I 5 0 5 = nI key := h.2.2.2.2.1
  have l7 : I 5 0 7 = nI x.2.1 := h.2.1.2.1
  have l8 : I 5 0 8 = nI x.2.2 := h.2.1.2.2
  have nm := s_namesOf (d + 2) key I hk
  by_cases e : x.2.2 - x.2.1 = 1
  · obtain ⟨b0, l29⟩ := h.1.2.2 x.2.1 (by omega)
    have six := sx_n key hk (T x.2.1) (by omega)
    have uu := sx_u (T x.2.1) (by omega)
    have st : Sn (d + 4) q_Reader_readName [.inr (5, 0)] I = Rn (d + 3) q_Reader_readName 3 [some (.inr (5, 0)), none] [.inr (13, 4 + key)] I := by
      simp (disch := omega) only [n_Reader_readName, e_Reader_readName_0, e_Reader_readName_2, lit, nad, nml, bd_s, ct_s, ct_n, a11, a01, aB2, bitA, nlt, nle, neq, dlT, dlF, deT, deF, dqT, dqF, nN, inb, nsb, ndv, nrm, if_true, if_false, ite_true, ite_false, true_and, and_true, and_self, and_false, false_and, or_true, true_or, or_false, false_or, or_self, ↓reduceIte, eq_self, Nat.reduceAdd, Nat.reduceMul, Nat.reduceSub, Nat.reduceDiv, Nat.reduceMod, Nat.zero_add, Nat.mul_zero, not_true_eq_false, not_false_eq_true, up_T, up_F, wr_T, wr_F, ngE, ngE', ngL, ngL', ngQ, ngQ', l7, l8, l5, nm]
    have st3 : Rn (d + 3) q_Reader_readName 3 [some (.inr (5, 0)), none] [.inr (13, 4 + key)] I = if mm_six (4 + key) (nI (T x.2.1)) < 0 then Rn (d + 3) q_Reader_readName 7 [some (.inr (5, 0)), some (.inl (mm_six (4 + key) (nI (T x.2.1))))] [] I else Rn (d + 3) q_Reader_readName 4 [some (.inr (5, 0)), some (.inl (mm_six (4 + key) (nI (T x.2.1))))] [] I := by
      rw [e_Reader_readName_3, l7, if_pos (by rw [nI_toInt (by omega)]; omega), nN (by omega), l29, uu]
    rw [st, st3, six]
    cases z : nmK key (T x.2.1) with
    | none =>
      right
      refine ⟨fun _ => rfl, ?_⟩
      dsimp only
      rw [if_pos (by decide), e_Reader_readName_7, e_Reader_readName_8]
      rfl
    | some i =>
      left
      have hi := nmK_b z
      obtain ⟨I', a1, a2, a3⟩ := s_readOperand d n (10000 + i) T (nI key) x C a I h hC ⟨hx1, hx2⟩
      refine ⟨i, e, rfl, I', ?_, a2, a3⟩
      dsimp only
      rw [if_neg (by rw [show (0 : Int32) = nI 0 from rfl, nlt (by omega) (by omega)]; omega)]
      simp (disch := omega) only [e_Reader_readName_4, e_Reader_readName_5, e_Reader_readName_6, e_Reader_readName_7, e_Reader_readName_8, lit, nad, nml, bd_s, ct_s, ct_n, a11, a01, aB2, bitA, nlt, nle, neq, dlT, dlF, deT, deF, dqT, dqF, nN, inb, nsb, ndv, nrm, if_true, if_false, ite_true, ite_false, true_and, and_true, and_self, and_false, false_and, or_true, true_or, or_false, false_or, or_self, ↓reduceIte, eq_self, Nat.reduceAdd, Nat.reduceMul, Nat.reduceSub, Nat.reduceDiv, Nat.reduceMod, Nat.zero_add, Nat.mul_zero, not_true_eq_false, not_false_eq_true, up_T, up_F, wr_T, wr_F, ngE, ngE', ngL, ngL', ngQ, ngQ', a1]
  · right
    refine ⟨fun q => absurd q e, ?_⟩
    simp (disch := omega) only [n_Reader_readName, e_Reader_readName_0, e_Reader_readName_1, lit, nad, nml, bd_s, ct_s, ct_n, a11, a01, aB2, bitA, nlt, nle, neq, dlT, dlF, deT, deF, dqT, dqF, nN, inb, nsb, ndv, nrm, if_true, if_false, ite_true, ite_false, true_and, and_true, and_self, and_false, false_and, or_true, true_or, or_false, false_or, or_self, ↓reduceIte, eq_self, Nat.reduceAdd, Nat.reduceMul, Nat.reduceSub, Nat.reduceDiv, Nat.reduceMod, Nat.zero_add, Nat.mul_zero, not_true_eq_false, not_false_eq_true, up_T, up_F, wr_T, wr_F, ngE, ngE', ngL, ngL', ngQ, ngQ', l7, l8]
/-- what holds ahead of a read -/
def PRE (T : Nat → Nat) (n key : Nat) (x : LX) (C W : List Nat) (a k h : Nat) (I : mm_I) : Prop := RD T n (nI key) x C a I ∧ key < 4 ∧ WX T n x ∧ hgt C 0 = some h ∧ okL C ∧ C.length + W.length ≤ x.2.1 ∧ cnN W = k
/-- a read of a part -/
def SP6 (D o k : Nat) : Prop := o ≤ 8 → k ≤ 8 → ∀ T n key x C W a t h I, PRE T n key x C W a k h I → ∃ b I' y C1 a', Sn D q_Reader_readPart [.inr (5, 0), .inl (nI o), .inl (nI k)] I = some (some (.inl (nI (b2 b))), (sh0, I')) ∧ eqo [5, 30] I I' ∧ RD T n (nI key) y C1 a' I' ∧ WX T n y ∧ x.2.1 ≤ y.2.1 ∧
  (b = true → hgt C1 0 = some (h + 1) ∧ okL C1 ∧ x.2.1 < y.2.1 ∧ C1.length + W.length ≤ y.2.1 ∧ ∃ t', (∀ j, j ≤ o → t' j = t j) ∧ ∀ r, RR T n key y false (stl 6 W C1).1 (stl 6 W C1).2 a' o (cnN (stl 6 W C1).1) t' r → RR T n key x true W C a o k t r) ∧
  (b = false → RR T n key x true W C a o k t (false, y.2.1, [], 0))
def NX (L : Nat) (y : LX) (b : Bool) : Prop := rkS y.1 < L ∨ (rkS y.1 = 3 ∧ b = true)
/-- what holds behind a read of level L, and the next sign is below M -/
def PQ (T : Nat → Nat) (n key L M : Nat) (x : LX) (C W : List Nat) (a o k h : Nat) (t : Nat → Bool) (y : LX) (C1 : List Nat) (a' : Nat) : Prop := hgt C1 0 = some (h + 1) ∧ okL C1 ∧ x.2.1 < y.2.1 ∧ ∃ V C' t', (∀ c ∈ V, bnC c ∧ L ≤ rkC c) ∧ C1 = C' ++ V ∧ C1.length + W.length ≤ y.2.1 ∧ (∀ j, j < o → t' j = t j) ∧ (4 ≤ L → t' o = t o) ∧ NX M y (t' o) ∧ ∀ r, RR T n key y false (V ++ W) C' a' o k t' r → RR T n key x true W C a o k t r
/-- a read of level L by method m -/
def SP (D m L o k : Nat) : Prop := o ≤ 8 → k ≤ 8 → ∀ T n key x C W a t h I, PRE T n key x C W a k h I → St L W → (L ≤ 3 → t o = false) → ∃ b I' y C1 a', Sn D m [.inr (5, 0), .inl (nI o), .inl (nI k)] I = some (some (.inl (nI (b2 b))), (sh0, I')) ∧ eqo [5, 30] I I' ∧ RD T n (nI key) y C1 a' I' ∧ WX T n y ∧ x.2.1 ≤ y.2.1 ∧
  (b = true → PQ T n key L L x C W a o k h t y C1 a') ∧
  (b = false → RR T n key x true W C a o k t (false, y.2.1, [], 0))
theorem b2T : b2 true = 1 := rfl
theorem b2F : b2 false = 0 := rfl
theorem s_Part (d o k : Nat) (hN : k < 8 → SP6 (d + 4) o (k + 1)) (hO : o < 8 → SP (d + 4) q_Reader_readOr 1 (o + 1) k) : SP6 (d + 5) o k := by
  intro ho hk T n key x C W a t h I hP
  obtain ⟨hR, hkey, hX, hh, hok, hlen, hcn⟩ := hP
  have hn := hR.1.1
  have hx1 := hX.1
  have hx2 := hX.2.1
  have l6 : I 5 0 6 = nI x.1 := hR.2.1.1
  have hx3 := hX.2.2
  by_cases e8 : x.1 = 258
  · have opE : opd T key x = if x.2.2 - x.2.1 ≤ 4 then some (nmT T x.2.1 (x.2.2 - x.2.1)) else none := by
      unfold opd; rw [if_pos e8]
    rcases s_readNumber d n T (nI key) x C a I hR (by omega) hX e8 with ⟨q0, I', q1, q2, q3⟩ | ⟨q0, q1⟩
    · rw [if_pos q0] at opE
      have nw := nx_w (x := x) (fun p hp => (hR.1.2.2 p hp).1) hx2
      have hb := opd_b hX opE
      refine ⟨true, I', nxT T n x, _, a + 1, ?_, q3, q2, nw.1, by omega, fun _ => ⟨hg_o hh (by omega), okL_a hok (Or.inl hb.1), by omega, ?_, t, fun _ _ => rfl, fun r hr => RR_opd (Or.inr e8) opE hr⟩, fun z => by cases z⟩
      · simp (disch := omega) only [n_Reader_readPart, e_Reader_readPart_0, e_Reader_readPart_1, e_Reader_readPart_2, lit, nad, nml, bd_s, ct_s, ct_n, a11, a01, aB2, bitA, nlt, nle, neq, dlT, dlF, deT, deF, dqT, dqF, nN, inb, nsb, ndv, nrm, if_true, if_false, ite_true, ite_false, true_and, and_true, and_self, and_false, false_and, or_true, true_or, or_false, false_or, or_self, ↓reduceIte, eq_self, Nat.reduceAdd, Nat.reduceMul, Nat.reduceSub, Nat.reduceDiv, Nat.reduceMod, Nat.zero_add, Nat.mul_zero, not_true_eq_false, not_false_eq_true, up_T, up_F, wr_T, wr_F, ngE, ngE', ngL, ngL', ngQ, ngQ', l6, q1, b2T]
      · rw [List.length_append, List.length_singleton]; omega
    · rw [if_neg q0] at opE
      refine ⟨false, I, x, C, a, ?_, eqo_rf _ _, hR, hX, Nat.le_refl _, fun z => (by cases z), fun _ => RR_bad (by omega) (by omega) opE⟩
      simp (disch := omega) only [n_Reader_readPart, e_Reader_readPart_0, e_Reader_readPart_1, e_Reader_readPart_2, lit, nad, nml, bd_s, ct_s, ct_n, a11, a01, aB2, bitA, nlt, nle, neq, dlT, dlF, deT, deF, dqT, dqF, nN, inb, nsb, ndv, nrm, if_true, if_false, ite_true, ite_false, true_and, and_true, and_self, and_false, false_and, or_true, true_or, or_false, false_or, or_self, ↓reduceIte, eq_self, Nat.reduceAdd, Nat.reduceMul, Nat.reduceSub, Nat.reduceDiv, Nat.reduceMod, Nat.zero_add, Nat.mul_zero, not_true_eq_false, not_false_eq_true, up_T, up_F, wr_T, wr_F, ngE, ngE', ngL, ngL', ngQ, ngQ', l6, q1, b2F]
  by_cases e7 : x.1 = 257
  · have opE : opd T key x = if x.2.2 - x.2.1 = 1 then (nmK key (T x.2.1)).map (fun i => 10000 + i) else none := by
      unfold opd; rw [if_neg e8, if_pos e7]
    rcases s_readName d n key T x C a I hR hkey (by omega) hX e7 with ⟨i, q0, q00, I', q1, q2, q3⟩ | ⟨q0, q1⟩
    · rw [if_pos q0, q00, show Option.map (fun i => 10000 + i) (some i) = some (10000 + i) from rfl] at opE
      have nw := nx_w (x := x) (fun p hp => (hR.1.2.2 p hp).1) hx2
      have hb := opd_b hX opE
      refine ⟨true, I', nxT T n x, _, a + 1, ?_, q3, q2, nw.1, by omega, fun _ => ⟨hg_o hh (by omega), okL_a hok (Or.inl hb.1), by omega, ?_, t, fun _ _ => rfl, fun r hr => RR_opd (Or.inl e7) opE hr⟩, fun z => by cases z⟩
      · simp (disch := omega) only [n_Reader_readPart, e_Reader_readPart_0, e_Reader_readPart_3, e_Reader_readPart_4, e_Reader_readPart_5, lit, nad, nml, bd_s, ct_s, ct_n, a11, a01, aB2, bitA, nlt, nle, neq, dlT, dlF, deT, deF, dqT, dqF, nN, inb, nsb, ndv, nrm, if_true, if_false, ite_true, ite_false, true_and, and_true, and_self, and_false, false_and, or_true, true_or, or_false, false_or, or_self, ↓reduceIte, eq_self, Nat.reduceAdd, Nat.reduceMul, Nat.reduceSub, Nat.reduceDiv, Nat.reduceMod, Nat.zero_add, Nat.mul_zero, not_true_eq_false, not_false_eq_true, up_T, up_F, wr_T, wr_F, ngE, ngE', ngL, ngL', ngQ, ngQ', l6, q1, b2T]
      · rw [List.length_append, List.length_singleton]; omega
    · have opN : opd T key x = none := by
        rw [opE]
        split
        · rename_i z; rw [q0 z]; rfl
        · rfl
      refine ⟨false, I, x, C, a, ?_, eqo_rf _ _, hR, hX, Nat.le_refl _, fun z => (by cases z), fun _ => RR_bad (by omega) (by omega) opN⟩
      simp (disch := omega) only [n_Reader_readPart, e_Reader_readPart_0, e_Reader_readPart_3, e_Reader_readPart_4, e_Reader_readPart_5, lit, nad, nml, bd_s, ct_s, ct_n, a11, a01, aB2, bitA, nlt, nle, neq, dlT, dlF, deT, deF, dqT, dqF, nN, inb, nsb, ndv, nrm, if_true, if_false, ite_true, ite_false, true_and, and_true, and_self, and_false, false_and, or_true, true_or, or_false, false_or, or_self, ↓reduceIte, eq_self, Nat.reduceAdd, Nat.reduceMul, Nat.reduceSub, Nat.reduceDiv, Nat.reduceMod, Nat.zero_add, Nat.mul_zero, not_true_eq_false, not_false_eq_true, up_T, up_F, wr_T, wr_F, ngE, ngE', ngL, ngL', ngQ, ngQ', l6, q1, b2F]
  have opN : opd T key x = none := by unfold opd; rw [if_neg e8, if_neg e7]
  by_cases e1 : x.1 = 33 ∧ k < 8
  · obtain ⟨I1, a1, a2, a3⟩ := s_RDstep (d + 2) n T (nI key) x C a I hR ⟨hx1, hx2⟩
    have nw := nx_w (x := x) (fun p hp => (hR.1.2.2 p hp).1) hx2
    have hcn' : cnN (20033 :: W) = k + 1 := by rw [cnN, hcn, if_pos rfl]
    obtain ⟨b, I2, y, C1, a', c1, c2, c3, c4, c5, c6, c7⟩ := hN e1.2 ho (by omega) T n key (nxT T n x) C (20033 :: W) a t h I1 ⟨a2, hkey, nw.1, hh, hok, by rw [List.length_cons]; omega, hcn'⟩
    have hxx : x.2.1 < (nxT T n x).2.1 := by omega
    cases b with
    | false =>
      refine ⟨false, I2, y, C1, a', ?_, eqo_tr a3 c2, c3, c4, by omega, fun z => (by cases z), fun _ => RR_not e1.1 e1.2 (by rw [hcn']; exact c7 rfl)⟩
      have := e1.2
      simp (disch := omega) only [n_Reader_readPart, e_Reader_readPart_0, e_Reader_readPart_3, e_Reader_readPart_6, e_Reader_readPart_7, e_Reader_readPart_8, e_Reader_readPart_9, e_Reader_readPart_10, e_Reader_readPart_11, lit, nad, nml, bd_s, ct_s, ct_n, a11, a01, aB2, bitA, nlt, nle, neq, dlT, dlF, deT, deF, dqT, dqF, nN, inb, nsb, ndv, nrm, if_true, if_false, ite_true, ite_false, true_and, and_true, and_self, and_false, false_and, or_true, true_or, or_false, false_or, or_self, ↓reduceIte, eq_self, Nat.reduceAdd, Nat.reduceMul, Nat.reduceSub, Nat.reduceDiv, Nat.reduceMod, Nat.zero_add, Nat.mul_zero, not_true_eq_false, not_false_eq_true, up_T, up_F, wr_T, wr_F, ngE, ngE', ngL, ngL', ngQ, ngQ', l6, a1, c1, b2F]
    | true =>
      obtain ⟨g1, g2, g3, g4, t', g5, g6⟩ := c6 rfl
      rw [List.length_cons] at g4
      have hn2 := c3.1.1
      have cy := c4.2.1
      have cy3 := c4.2.2
      obtain ⟨I3, p1, p2, p3⟩ := s_put (d + 3) n 20033 T (nI key) y C1 a' I2 c3 (by omega)
      refine ⟨true, I3, y, C1 ++ [20033], a', ?_, eqo_tr a3 (eqo_tr c2 p3), p2, c4, by omega, fun _ => ⟨hg_n g1, okL_a g2 (by unfold okC; omega), by omega, ?_, t', g5, fun r hr => RR_not e1.1 e1.2 (by rw [hcn']; exact g6 r (by rw [stl, if_neg (by decide)]; exact hr))⟩, fun z => by cases z⟩
      · have := e1.2
        simp (disch := omega) only [n_Reader_readPart, e_Reader_readPart_0, e_Reader_readPart_3, e_Reader_readPart_6, e_Reader_readPart_7, e_Reader_readPart_8, e_Reader_readPart_9, e_Reader_readPart_10, e_Reader_readPart_12, e_Reader_readPart_13, lit, nad, nml, bd_s, ct_s, ct_n, a11, a01, aB2, bitA, nlt, nle, neq, dlT, dlF, deT, deF, dqT, dqF, nN, inb, nsb, ndv, nrm, if_true, if_false, ite_true, ite_false, true_and, and_true, and_self, and_false, false_and, or_true, true_or, or_false, false_or, or_self, ↓reduceIte, eq_self, Nat.reduceAdd, Nat.reduceMul, Nat.reduceSub, Nat.reduceDiv, Nat.reduceMod, Nat.zero_add, Nat.mul_zero, not_true_eq_false, not_false_eq_true, up_T, up_F, wr_T, wr_F, ngE, ngE', ngL, ngL', ngQ, ngQ', l6, a1, c1, p1, b2T]
      · rw [List.length_append, List.length_singleton]; omega
  by_cases e2 : x.1 = 40 ∧ o < 8
  · obtain ⟨I1, a1, a2, a3⟩ := s_RDstep (d + 2) n T (nI key) x C a I hR ⟨hx1, hx2⟩
    have nw := nx_w (x := x) (fun p hp => (hR.1.2.2 p hp).1) hx2
    have hcn' : cnN (20040 :: W) = k := by rw [cnN, hcn, if_neg (by decide)]; rfl
    obtain ⟨b, I2, y, C1, a', c1, c2, c3, c4, c5, c6, c7⟩ := hO e2.2 (by omega) hk T n key (nxT T n x) C (20040 :: W) a (uB t (o + 1) false) h I1 ⟨a2, hkey, nw.1, hh, hok, by rw [List.length_cons]; omega, hcn'⟩ (St_o _ _) (fun _ => by unfold uB; rw [if_pos rfl])
    have hxx : x.2.1 < (nxT T n x).2.1 := by omega
    have l6' : I2 5 0 6 = nI y.1 := c3.2.1.1
    have hy1 := c4.1
    cases b with
    | false =>
      refine ⟨false, I2, y, C1, a', ?_, eqo_tr a3 c2, c3, c4, by omega, fun z => (by cases z), fun _ => RR_open e2.1 e2.2 (by rw [hcn']; exact c7 rfl)⟩
      have := e2.2
      simp (disch := omega) only [n_Reader_readPart, e_Reader_readPart_0, e_Reader_readPart_3, e_Reader_readPart_6, e_Reader_readPart_14, e_Reader_readPart_15, e_Reader_readPart_16, e_Reader_readPart_17, e_Reader_readPart_18, e_Reader_readPart_20, lit, nad, nml, bd_s, ct_s, ct_n, a11, a01, aB2, bitA, nlt, nle, neq, dlT, dlF, deT, deF, dqT, dqF, nN, inb, nsb, ndv, nrm, if_true, if_false, ite_true, ite_false, true_and, and_true, and_self, and_false, false_and, or_true, true_or, or_false, false_or, or_self, ↓reduceIte, eq_self, Nat.reduceAdd, Nat.reduceMul, Nat.reduceSub, Nat.reduceDiv, Nat.reduceMod, Nat.zero_add, Nat.mul_zero, not_true_eq_false, not_false_eq_true, up_T, up_F, wr_T, wr_F, ngE, ngE', ngL, ngL', ngQ, ngQ', l6, a1, c1, b2F]
    | true =>
      obtain ⟨g1, g2, g3, V, C', t', g4, g5, g6, g7, g8, g9, g10⟩ := c6 rfl
      rw [List.length_cons] at g6
      by_cases ey : y.1 = 41
      · obtain ⟨I3, p1, p2, p3⟩ := s_RDstep (d + 2) n T (nI key) y C1 a' I2 c3 ⟨hy1, c4.2.1⟩
        have nw2 := nx_w (x := y) (fun p hp => (hR.1.2.2 p hp).1) c4.2.1
        have cy3 := c4.2.2
        have se : stl 0 (V ++ 20040 :: W) C' = (20040 :: W, C1) := by
          rw [stl_a (fun c hc => ⟨(g4 c hc).1.1, Nat.zero_le _⟩), ← g5]
          exact St_o _ _ _
        refine ⟨true, I3, nxT T n y, C1, a', ?_, eqo_tr a3 (eqo_tr c2 p3), p2, nw2.1, by omega, fun _ => ⟨g1, g2, by omega, by omega, t', fun j hj => ?_, fun r hr => RR_open e2.1 e2.2 (by rw [hcn']; exact g10 r (RR_close ey (by rw [se]; exact hr)))⟩, fun z => by cases z⟩
        · have := e2.2
          simp (disch := omega) only [n_Reader_readPart, e_Reader_readPart_0, e_Reader_readPart_3, e_Reader_readPart_6, e_Reader_readPart_14, e_Reader_readPart_15, e_Reader_readPart_16, e_Reader_readPart_17, e_Reader_readPart_18, e_Reader_readPart_19, e_Reader_readPart_21, e_Reader_readPart_22, lit, nad, nml, bd_s, ct_s, ct_n, a11, a01, aB2, bitA, nlt, nle, neq, dlT, dlF, deT, deF, dqT, dqF, nN, inb, nsb, ndv, nrm, if_true, if_false, ite_true, ite_false, true_and, and_true, and_self, and_false, false_and, or_true, true_or, or_false, false_or, or_self, ↓reduceIte, eq_self, Nat.reduceAdd, Nat.reduceMul, Nat.reduceSub, Nat.reduceDiv, Nat.reduceMod, Nat.zero_add, Nat.mul_zero, not_true_eq_false, not_false_eq_true, up_T, up_F, wr_T, wr_F, ngE, ngE', ngL, ngL', ngQ, ngQ', l6, a1, c1, l6', p1, b2T]
        · rw [g7 j (by omega)]
          unfold uB
          rw [if_neg (by omega)]
      · have bad : RR T n key y false (V ++ 20040 :: W) C' a' (o + 1) k t' (false, y.2.1, [], 0) := by
          by_cases e9 : y.1 = 256
          · exact RR_soon e9 (by omega)
          · refine RR_badS e9 (fun z => ey z.1) ?_
            rcases g9 with q | q
            · exact Or.inl (by omega)
            · exact Or.inr q
        refine ⟨false, I2, y, C1, a', ?_, eqo_tr a3 c2, c3, c4, by omega, fun z => (by cases z), fun _ => RR_open e2.1 e2.2 (by rw [hcn']; exact g10 _ bad)⟩
        have := e2.2
        simp (disch := omega) only [n_Reader_readPart, e_Reader_readPart_0, e_Reader_readPart_3, e_Reader_readPart_6, e_Reader_readPart_14, e_Reader_readPart_15, e_Reader_readPart_16, e_Reader_readPart_17, e_Reader_readPart_18, e_Reader_readPart_19, e_Reader_readPart_20, lit, nad, nml, bd_s, ct_s, ct_n, a11, a01, aB2, bitA, nlt, nle, neq, dlT, dlF, deT, deF, dqT, dqF, nN, inb, nsb, ndv, nrm, if_true, if_false, ite_true, ite_false, true_and, and_true, and_self, and_false, false_and, or_true, true_or, or_false, false_or, or_self, ↓reduceIte, eq_self, Nat.reduceAdd, Nat.reduceMul, Nat.reduceSub, Nat.reduceDiv, Nat.reduceMod, Nat.zero_add, Nat.mul_zero, not_true_eq_false, not_false_eq_true, up_T, up_F, wr_T, wr_F, ngE, ngE', ngL, ngL', ngQ, ngQ', l6, a1, c1, l6', b2T, b2F]
  · refine ⟨false, I, x, C, a, ?_, eqo_rf _ _, hR, hX, Nat.le_refl _, fun z => (by cases z), fun _ => RR_bad e1 e2 opN⟩
    by_cases z1 : x.1 = 33
    · simp (disch := omega) only [n_Reader_readPart, e_Reader_readPart_0, e_Reader_readPart_3, e_Reader_readPart_6, e_Reader_readPart_7, e_Reader_readPart_14, e_Reader_readPart_23, lit, nad, nml, bd_s, ct_s, ct_n, a11, a01, aB2, bitA, nlt, nle, neq, dlT, dlF, deT, deF, dqT, dqF, nN, inb, nsb, ndv, nrm, if_true, if_false, ite_true, ite_false, true_and, and_true, and_self, and_false, false_and, or_true, true_or, or_false, false_or, or_self, ↓reduceIte, eq_self, Nat.reduceAdd, Nat.reduceMul, Nat.reduceSub, Nat.reduceDiv, Nat.reduceMod, Nat.zero_add, Nat.mul_zero, not_true_eq_false, not_false_eq_true, up_T, up_F, wr_T, wr_F, ngE, ngE', ngL, ngL', ngQ, ngQ', l6, b2F]
    · by_cases z2 : x.1 = 40
      · simp (disch := omega) only [n_Reader_readPart, e_Reader_readPart_0, e_Reader_readPart_3, e_Reader_readPart_6, e_Reader_readPart_14, e_Reader_readPart_15, e_Reader_readPart_23, lit, nad, nml, bd_s, ct_s, ct_n, a11, a01, aB2, bitA, nlt, nle, neq, dlT, dlF, deT, deF, dqT, dqF, nN, inb, nsb, ndv, nrm, if_true, if_false, ite_true, ite_false, true_and, and_true, and_self, and_false, false_and, or_true, true_or, or_false, false_or, or_self, ↓reduceIte, eq_self, Nat.reduceAdd, Nat.reduceMul, Nat.reduceSub, Nat.reduceDiv, Nat.reduceMod, Nat.zero_add, Nat.mul_zero, not_true_eq_false, not_false_eq_true, up_T, up_F, wr_T, wr_F, ngE, ngE', ngL, ngL', ngQ, ngQ', l6, b2F]
      · simp (disch := omega) only [n_Reader_readPart, e_Reader_readPart_0, e_Reader_readPart_3, e_Reader_readPart_6, e_Reader_readPart_14, e_Reader_readPart_23, lit, nad, nml, bd_s, ct_s, ct_n, a11, a01, aB2, bitA, nlt, nle, neq, dlT, dlF, deT, deF, dqT, dqF, nN, inb, nsb, ndv, nrm, if_true, if_false, ite_true, ite_false, true_and, and_true, and_self, and_false, false_and, or_true, true_or, or_false, false_or, or_self, ↓reduceIte, eq_self, Nat.reduceAdd, Nat.reduceMul, Nat.reduceSub, Nat.reduceDiv, Nat.reduceMod, Nat.zero_add, Nat.mul_zero, not_true_eq_false, not_false_eq_true, up_T, up_F, wr_T, wr_F, ngE, ngE', ngL, ngL', ngQ, ngQ', l6, b2F]
