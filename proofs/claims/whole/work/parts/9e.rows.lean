/-! text, the call. -/
def txA (A : mm_A) (key ow yr a : Nat) (C : List Nat) : mm_A := fun s i c => if s = 0 ∧ i = 0 ∧ c = 2 then A 0 0 2 + 1 else if s = 3 ∧ i = A 0 0 2 then (if c = 0 then key else if c = 1 then ow else if c = 2 then yr else if c = 3 then a else if c = 4 then C.length else mm_at 0 C (c - 5)) else A s i c
theorem tx_2 (A : mm_A) (key ow yr a : Nat) (C : List Nat) : txA A key ow yr a C 0 0 2 = A 0 0 2 + 1 := if_pos ⟨rfl, rfl, rfl⟩
theorem tx_o {A : mm_A} {key ow yr a : Nat} {C : List Nat} {s i c : Nat} (h1 : ¬ (s = 0 ∧ i = 0 ∧ c = 2)) (h2 : ¬ (s = 3 ∧ i = A 0 0 2)) : txA A key ow yr a C s i c = A s i c := by
  unfold txA
  rw [if_neg h1, if_neg h2]
theorem tx_m (A : mm_A) (key ow yr a : Nat) (C : List Nat) (c : Nat) : txA A key ow yr a C 3 (A 0 0 2) c = (if c = 0 then key else if c = 1 then ow else if c = 2 then yr else if c = 3 then a else if c = 4 then C.length else mm_at 0 C (c - 5)) := by
  unfold txA
  rw [if_neg (by omega), if_pos ⟨rfl, rfl⟩]
theorem tx_c (A : mm_A) (key ow yr a : Nat) (C : List Nat) (k : Nat) : txA A key ow yr a C 3 (A 0 0 2) (5 + k) = mm_at 0 C k := by
  rw [tx_m, if_neg (by omega), if_neg (by omega), if_neg (by omega), if_neg (by omega), if_neg (by omega), show 5 + k - 5 = k by omega]
theorem map_at : ∀ C : List Nat, (List.range C.length).map (fun k => mm_at 0 C k) = C
  | [] => rfl
  | c :: C => by
    rw [List.length_cons, List.range_succ_eq_map, List.map_cons, List.map_map]
    refine congrArg (c :: ·) ?_
    exact map_at C
theorem Good_tx {A : mm_A} {key ow yr a : Nat} {C : List Nat} (g : Good A) (hm : A 0 0 2 < 14) (h0 : key < 4) (h1 : ow ≤ 3) (h2 : yr ≤ 200) (h3 : a ≤ 96) (h4 : C.length ≤ 96) (h5 : okL C) (h6 : hgt C 0 = some 1) : Good (txA A key ow yr a C) := by
  obtain ⟨g1, g2, g3, g4, g5, g6, g7, g8, g9, g10, g11, g12⟩ := g
  have z0 : ∀ c, c ≠ 2 → txA A key ow yr a C 0 0 c = A 0 0 c := fun c hc => tx_o (by omega) (by omega)
  have zs : ∀ s i c, s ≠ 0 → s ≠ 3 → txA A key ow yr a C s i c = A s i c := fun s i c q1 q2 => tx_o (by omega) (by omega)
  have hH : ∀ t, t < 7 → tH t ≠ 2 := by decide
  refine ⟨⟨?_, ?_, ?_, ?_, ?_⟩, fun t ht => ?_, fun p hp => ?_, fun y hy => ?_, fun r hr => ?_, fun r hr => ?_, fun r hr => ?_, fun r hr => ?_, fun r hr => ?_, fun r hr => ?_, fun r hr => ?_, fun r hr => ?_⟩
  · rw [z0 0 (by decide)]; exact g1.1
  · rw [tx_2]; omega
  · rw [z0 9 (by decide)]; exact g1.2.2.1
  · rw [z0 10 (by decide)]; exact g1.2.2.2.1
  · rw [z0 11 (by decide)]; exact g1.2.2.2.2
  · rw [z0 _ (hH t ht)]; exact g2 t ht
  · rw [z0 0 (by decide)] at hp
    have : txA A key ow yr a C 1 p = A 1 p := by funext c; exact zs 1 p c (by decide) (by decide)
    rw [this]; exact g3 p hp
  · rw [zs 2 0 y (by decide) (by decide)]; exact g4 y hy
  · rw [tx_2] at hr
    by_cases e : r = A 0 0 2
    · subst e
      have c4 : txA A key ow yr a C 3 (A 0 0 2) 4 = C.length := by rw [tx_m]; rfl
      have cc : cods (txA A key ow yr a C) (A 0 0 2) = C := by
        unfold cods
        rw [c4]
        refine (List.map_congr_left (fun k _ => tx_c A key ow yr a C k)).trans (map_at C)
      rw [cc, c4]
      exact ⟨by rw [tx_m]; show key ≤ 3; omega, by rw [tx_m]; exact h1, by rw [tx_m]; exact h2, by rw [tx_m]; exact h3, h4, h5, h6⟩
    · have : txA A key ow yr a C 3 r = A 3 r := by funext c; exact tx_o (by omega) (by omega)
      have cc : cods (txA A key ow yr a C) r = cods A r := by unfold cods; rw [this]
      rw [cc, this]
      exact g5 r (by omega)
  · rw [z0 1 (by decide)] at hr
    rw [zs 4 r 0 (by decide) (by decide), zs 4 r 1 (by decide) (by decide), zs 4 r 2 (by decide) (by decide)]; exact g6 r hr
  · rw [z0 3 (by decide)] at hr
    rw [z0 0 (by decide), zs 5 r 0 (by decide) (by decide), zs 5 r 1 (by decide) (by decide), zs 5 r 2 (by decide) (by decide), zs 5 r 3 (by decide) (by decide)]; exact g7 r hr
  · rw [z0 4 (by decide)] at hr
    rw [z0 0 (by decide), zs 6 r 0 (by decide) (by decide)]; exact g8 r hr
  · rw [z0 5 (by decide)] at hr
    rw [zs 7 r 0 (by decide) (by decide), zs 7 r 1 (by decide) (by decide)]; exact g9 r hr
  · rw [z0 6 (by decide)] at hr
    rw [zs 8 r 0 (by decide) (by decide)]; exact g10 r hr
  · rw [z0 7 (by decide)] at hr
    rw [zs 9 r 0 (by decide) (by decide), zs 9 r 1 (by decide) (by decide)]; exact g11 r hr
  · rw [z0 8 (by decide)] at hr
    rw [zs 10 r 0 (by decide) (by decide), zs 10 r 1 (by decide) (by decide)]; exact g12 r hr
theorem RepC_fr2 {h : Nat} {A : mm_A} {I I' : mm_I} (hC : RepC h A I) (g : Good A) (e : ∀ k i, hc h k i ∨ ((k = 9 ∨ k = 38) ∧ i < A 0 0 2) → I' k i = I k i) : RepC h A I' := by
  obtain ⟨h1, h2, h3, h4, h5, h6⟩ := hC
  have e3 : I' 3 h = I 3 h := e 3 h (Or.inl (Or.inl ⟨rfl, rfl⟩))
  have e28 : I' 28 h = I 28 h := e 28 h (Or.inl (Or.inr (Or.inr (Or.inr (Or.inl ⟨rfl, rfl⟩)))))
  have e7 : ∀ t, t < 7 → I' 7 (7 * h + t) = I 7 (7 * h + t) := fun t ht => e 7 _ (Or.inl (Or.inr (Or.inl ⟨rfl, by omega, by omega⟩)))
  have e37 : ∀ t, t < 7 → I' 37 (7 * h + t) = I 37 (7 * h + t) := fun t ht => e 37 _ (Or.inl (Or.inr (Or.inr (Or.inr (Or.inr ⟨rfl, by omega, by omega⟩)))))
  have e8 : ∀ p, p < 16 → I' 8 (16 * h + p) = I 8 (16 * h + p) := fun t ht => e 8 _ (Or.inl (Or.inr (Or.inr (Or.inl ⟨rfl, by omega, by omega⟩))))
  have hn := g.1.1
  refine ⟨by rw [e3]; exact h1, fun t ht => by rw [e7 t ht]; exact h2 t ht, fun p hp => StC_c (h3 p hp) (e8 p (by omega)), fun y hy => by rw [e28]; exact h4 y hy, fun r hr => ?_, fun t r c ht hr hcc => by rw [e37 t ht]; exact h6 t r c ht hr hcc⟩
  rw [e 9 r (Or.inr ⟨Or.inl rfl, hr⟩), e 38 r (Or.inr ⟨Or.inr rfl, hr⟩)]
  exact h5 r hr
theorem RepC_tx {A : mm_A} {key ow yr a : Nat} {C : List Nat} {I I' : mm_I} (hC : RepC 0 A I) (g : Good A) (e3 : ∀ j, j ≠ 5 → I' 3 0 j = I 3 0 j) (e35 : I' 3 0 5 = nI (A 0 0 2 + 1)) (ek : ∀ k, k = 7 ∨ k = 8 ∨ k = 28 ∨ k = 37 → I' k = I k) (e9 : ∀ r, r ≠ A 0 0 2 → I' 9 r = I 9 r ∧ I' 38 r = I 38 r) (m0 : I' 9 (A 0 0 2) 0 = nI ow) (m1 : I' 9 (A 0 0 2) 1 = nI yr) (m2 : I' 9 (A 0 0 2) 2 = nI key) (m3 : I' 9 (A 0 0 2) 3 = nI a) (m4 : I' 9 (A 0 0 2) 4 = nI C.length) (mc : ∀ k, k < C.length → I' 38 (A 0 0 2) k = nI (mm_at 0 C k)) : RepC 0 (txA A key ow yr a C) I' := by
  obtain ⟨h1, h2, h3, h4, h5, h6⟩ := hC
  have z0 : ∀ c, c ≠ 2 → txA A key ow yr a C 0 0 c = A 0 0 c := fun c hc => tx_o (by omega) (by omega)
  have zs : ∀ s i c, s ≠ 0 → s ≠ 3 → txA A key ow yr a C s i c = A s i c := fun s i c q1 q2 => tx_o (by omega) (by omega)
  have hH : ∀ t, t < 7 → tH t ≠ 2 := by decide
  refine ⟨⟨?_, ?_, ?_, ?_, ?_⟩, fun t ht => ?_, fun p hp => ?_, fun y hy => ?_, fun r hr => ?_, fun t r c ht hr hcc => ?_⟩
  · rw [e3 1 (by decide), z0 0 (by decide)]; exact h1.1
  · rw [e35, tx_2]
  · rw [e3 13 (by decide), z0 9 (by decide)]; exact h1.2.2.1
  · rw [e3 7 (by decide), z0 10 (by decide)]; exact h1.2.2.2.1
  · rw [e3 4 (by decide), z0 11 (by decide)]; exact h1.2.2.2.2
  · rw [ek 7 (by omega), z0 _ (hH t ht)]; exact h2 t ht
  · rw [z0 0 (by decide)] at hp
    have : txA A key ow yr a C 1 p = A 1 p := by funext c; exact zs 1 p c (by decide) (by decide)
    rw [this]
    exact StC_c (h3 p hp) (by rw [ek 8 (by omega)])
  · rw [ek 28 (by omega), zs 2 0 y (by decide) (by decide)]; exact h4 y hy
  · rw [tx_2] at hr
    by_cases q : r = A 0 0 2
    · subst q
      have c4 : txA A key ow yr a C 3 (A 0 0 2) 4 = C.length := by rw [tx_m]; rfl
      rw [c4]
      exact ⟨by rw [tx_m]; exact m2, by rw [tx_m]; exact m0, by rw [tx_m]; exact m1, by rw [tx_m]; exact m3, m4, fun k hk => by rw [tx_c]; exact mc k hk⟩
    · have : txA A key ow yr a C 3 r = A 3 r := by funext c; exact tx_o (by omega) (by omega)
      rw [this, (e9 r q).1, (e9 r q).2]
      exact h5 r (by omega)
  · rw [z0 _ (hH t ht)] at hr
    rw [ek 37 (by omega), zs (4 + t) r c (by omega) (by omega)]
    exact h6 t r c ht hr hcc
theorem RepR_tx {A : mm_A} {key ow yr a : Nat} {C : List Nat} {I I' : mm_I} (hR : RepR 0 A I) (g : Good A) (hm : A 0 0 2 < 14) (e2 : I' 47 0 2 = nI (A 0 0 2 + 1)) (eo : ∀ j, j ≠ 2 → ¬ (541 + 4 * A 0 0 2 ≤ j ∧ j < 541 + 4 * A 0 0 2 + 4) → ¬ (597 + 96 * A 0 0 2 ≤ j ∧ j < 597 + 96 * A 0 0 2 + 96) → I' 47 0 j = I 47 0 j) (m0 : I' 47 0 (541 + 4 * A 0 0 2) = nI (1000 * key + C.length)) (m1 : I' 47 0 (541 + 4 * A 0 0 2 + 1) = nI ow) (m2 : I' 47 0 (541 + 4 * A 0 0 2 + 2) = nI yr) (m3 : I' 47 0 (541 + 4 * A 0 0 2 + 3) = nI a) (mc : ∀ k, k < C.length → I' 47 0 (597 + 96 * A 0 0 2 + k) = dcR (mm_at 0 C k)) : RepR 0 (txA A key ow yr a C) I' := by
  obtain ⟨h1, h2, h3, h4, h5⟩ := hR
  have z0 : ∀ c, c ≠ 2 → txA A key ow yr a C 0 0 c = A 0 0 c := fun c hc => tx_o (by omega) (by omega)
  have zs : ∀ s i c, s ≠ 0 → s ≠ 3 → txA A key ow yr a C s i c = A s i c := fun s i c q1 q2 => tx_o (by omega) (by omega)
  have hH : ∀ t, t < 7 → tH t ≠ 2 := by decide
  have hn := g.1.1
  refine ⟨fun c hc => ?_, fun p c hp hcc => ?_, fun y hy => ?_, fun r hr => ?_, fun t r c ht hr hcc => ?_⟩
  · by_cases q : c = 2
    · rw [q, e2, tx_2]
    · rw [z0 c q, eo c q (by omega) (by omega)]; exact h1 c hc
  · rw [z0 0 (by decide)] at hp
    rw [zs 1 p c (by decide) (by decide), eo _ (by omega) (by omega) (by omega)]; exact h2 p c hp hcc
  · rw [zs 2 0 y (by decide) (by decide), eo _ (by omega) (by omega) (by omega)]; exact h3 y hy
  · rw [tx_2] at hr
    by_cases q : r = A 0 0 2
    · subst q
      have c4 : txA A key ow yr a C 3 (A 0 0 2) 4 = C.length := by rw [tx_m]; rfl
      rw [c4]
      exact ⟨by rw [tx_m]; exact m0, by rw [tx_m]; exact m1, by rw [tx_m]; exact m2, by rw [tx_m]; exact m3, fun k hk => by rw [tx_c]; exact mc k hk⟩
    · have : txA A key ow yr a C 3 r = A 3 r := by funext c; exact tx_o (by omega) (by omega)
      have gl := (g.2.2.2.2.1 r (by omega)).2.2.2.2.1
      obtain ⟨q1, q2, q3, q4, q5⟩ := h4 r (by omega)
      rw [this, eo _ (by omega) (by omega) (by omega), eo _ (by omega) (by omega) (by omega), eo _ (by omega) (by omega) (by omega), eo _ (by omega) (by omega) (by omega)]
      exact ⟨q1, q2, q3, q4, fun k hk => by rw [eo _ (by omega) (by omega) (by omega)]; exact q5 k hk⟩
  · rw [z0 _ (hH t ht)] at hr
    have ub : 3 ≤ tB t + tW t * r + c ∧ tB t + tW t * r + c < 541 := by
      have hb : r < tM t := Nat.lt_of_lt_of_le hr (g.2.1 t ht)
      rcases t7 ht with q | q | q | q | q | q | q <;> subst q <;> simp only [tB, tW, tM, mm_at] at * <;> omega
    rw [zs (4 + t) r c (by omega) (by omega), eo _ (by omega) (by omega) (by omega)]
    exact h5 t r c ht hr hcc
/-- the tape is used up, nothing else is changed -/
theorem Inv_t0 {I I' : mm_I} (h : Inv I) (e : ∀ k, k ∉ [5, 12, 30, 54, 55, 201] → I' k = I k) (e12 : ∀ j, j = 3 ∨ j = 8 ∨ j = 47 → I' 12 0 j = I 12 0 j) (e5 : I' 5 0 1 = nI 0) (e11 : I' 12 0 11 = nI 0) : Inv I' := by
  obtain ⟨hr, hA⟩ := h
  obtain ⟨n, T, -⟩ := hr.2.2.1
  have ek : ∀ k i j, k ∉ [5, 12, 30, 54, 55, 201] → I' k i j = I k i j := fun k i j q => by rw [e k q]
  refine ⟨⟨Fix_o hr.1 (fun r j _ => ek _ _ _ (by decide)), Kst_eq hr.2.1 (fun k i j q => ?_), ⟨0, T, by decide, e5, e11, fun k hk => absurd hk (Nat.not_lt_zero _)⟩, Cnt_eq hr.2.2.2.1 (fun k i j q => ?_), Hts_eq hr.2.2.2.2.1 (fun k i j q => ?_), Num_eq hr.2.2.2.2.2 (fun k i j q => ?_)⟩, Inv_A hA (fun k i j q => ?_)⟩
  · unfold kstC at q
    rcases q with ⟨q1, q2, q3⟩ | q | q
    · rw [q1, q2, q3]; exact e12 8 (by omega)
    · exact ek k i j (by rw [q]; decide)
    · exact ek k i j (by rw [q]; decide)
  · unfold cntC at q; exact ek k i j (by simp; omega)
  · unfold htsC at q; exact ek k i j (by simp; omega)
  · unfold numC at q
    rcases q with ⟨q1, q2, q3⟩ | ⟨q1, q2, q3⟩ | q | q
    · exact ek k i j (by rw [q1]; decide)
    · rw [q1, q2, q3]; exact e12 47 (by omega)
    · exact ek k i j (by rw [q]; decide)
    · exact ek k i j (by rw [q]; decide)
  · unfold hc at q
    by_cases z : k = 12 ∧ i = 0 ∧ j = 3
    · rw [z.1, z.2.1, z.2.2]; exact e12 3 (by omega)
    · exact ek k i j (by simp; omega)
