/-! The three calls on String constants. -/
theorem st_len : ∀ i, i < 8 → mm_slen i = nI (jlen i) := by decide
theorem st_ch : ∀ i, i < 8 → ∀ k, k < 5 → k < jlen i → mm_sch i k = jch i k := by decide
theorem st_ixo {c : Int32} (hc : ¬ (0 ≤ c ∧ c ≤ 255)) : ∀ (l : List Int32) (k : Nat), (∀ b ∈ l, 0 ≤ b ∧ b ≤ 255) → mm_ixF c l k = -1
  | [], _, _ => rfl
  | b :: l, k, h => by
    have hb := h b (List.mem_cons_self ..)
    rw [mm_ixF, if_neg (fun q => hc (by rw [← q]; exact hb))]
    exact st_ixo hc l (k + 1) (fun x hx => h x (List.mem_cons_of_mem _ hx))
theorem st_by : ∀ i, i < 8 → ∀ b ∈ mm_atd [] mm_st i, (0 : Int32) ≤ b ∧ b ≤ 255 := by decide
theorem st_ixn : ∀ i, i < 8 → ∀ n, n < 256 → mm_six i (nI n) = jIx i (nI n) := by decide +kernel
theorem st_ix {i : Nat} (hi : i < 8) (c : Int32) : mm_six i c = jIx i c := by
  by_cases z : 0 ≤ c ∧ c ≤ 255
  · obtain ⟨n, n1, n2⟩ := nof (n := 255) (x := c) z.1 z.2 (by decide)
    rw [n2]
    exact st_ixn i hi n (by omega)
  · unfold jIx
    rw [if_neg z]
    exact st_ixo z _ 0 (st_by i hi)
theorem at_lt {D : va_G} {cl : List vw_C} {q : Nat × va_E} {H : Heap} (h : va_at D cl q H) : q.1 < H.size := by
  obtain ⟨a, e⟩ := q
  cases e with
  | inl x => exact (Array.getElem?_eq_some_iff.mp h).1
  | inr o =>
    obtain ⟨r, -, cell, hc, -⟩ := h
    exact (Array.getElem?_eq_some_iff.mp hc).1
section STR
variable {D : va_G} {ca : Nat → ClassId} {base b L : Nat} {xs : Nat → Int32} {sa : Nat → Nat} {ad : Nat → Nat → Nat} {μ : mm_M} {H H1 : Heap}
theorem hp_grow (h : mm_hp D ca base b L xs sa ad μ H) (hk : ∀ q : Nat, q < H.size → H1[q]? = H[q]?) : mm_hp D ca base b L xs sa ad μ H1 := by
  obtain ⟨al, h1, h2, h3, h4⟩ := h
  exact ⟨al, h1, h2, h3.kept (fun k q hq => hk _ (at_lt (h3 k q hq))), h4⟩
theorem st_13 (h : mm_hp D ca base b L xs sa ad μ H) {i : Nat} (hv : mm_vd μ.1.1 (.inr (13, i))) : i < 8 ∧ ad 13 i = sa i := by
  obtain ⟨al, h1, h2, -, -, -, -, -, h8, -⟩ := h
  have hi : i < 8 := by
    rcases hv with z | z | z
    · have := h2 (13, i) ((h1 13 i).mpr z)
      exact absurd (show mm_kok 13 = true from this) (by decide)
    · exact absurd (show 13 = 199 from z.1) (by decide)
    · exact z.2
  exact ⟨hi, h8 i hi⟩
end STR
set_option maxHeartbeats 4000000 in
theorem mm_str : mm_Str := by
  intro p l e R s m args below meth c Q D ca base b L xs sa M ad0 μ0 lo lo' st st' μ μ' ad H ls locs cells slots pc len inf cst idx C hk rl h hfr hlo hcl hsl kk
  obtain ⟨hx, hb, hml, hown, hts, hK, hnm, hbs, hX, hbb, hnw, hsx, hlk⟩ := id C
  have hS : va_S (fun q => base ≤ q) s.heap H locs := rl.2.2.2.2.1
  have hss := hsx.2
  obtain ⟨⟨sv, hv⟩, -, -⟩ := id hss
  simp only [mm_ce, Bool.and_eq_true, decide_eq_true_eq, beq_iff_eq] at hk
  obtain ⟨hd, ⟨hlen, h3⟩, hw⟩ := hk
  subst hlen
  obtain ⟨q, hq, hq1⟩ := List.any_eq_true.mp hw
  simp only [Bool.and_eq_true, beq_iff_eq] at hq1
  obtain ⟨⟨e1, e2⟩, e3⟩ := hq1
  have wl : Cond.methodLink (mm_cs (mm_mo M)) idx (mm_ty3 inf.1) ∈ mm_big := by
    have := mm_big_of (mm_mem_tab (mm_all wx_t_ok hq)) rfl
    rw [e1, e2, e3] at this
    exact this
  have hpU : ∀ U : State, U.heap = H → s.WarmedH U.vm → jP base sa U := fun U hU hW => by
    unfold jP
    rw [hU]
    exact mm_ss_mv hW.alike (mm_ss_kp hss hS.2.1)
  have S : CallFix p m c (mm_mc M) (NN M) s args mm_big (mm_cs (mm_mo M)) := ⟨hx, hb, hml, hown, hts⟩
  have hsz : ls.size = NN M := rl.2.2.2.1.1
  have done : ∀ (r : List mm_V) (v : Int32), (∀ w ∈ r, mm_vd μ.1.1 w) → lo' = lo → st' = .inl v :: r → μ' = μ → ∀ (H1 : Heap) (locs1 : List Loc), H.size ≤ H1.size → (∀ q : Nat, q < H.size → H1[q]? = H[q]?) → va_S (fun q => base ≤ q) s.heap H1 locs1 → W p l e R s m args below meth c H1 locs1 cells slots Q (F0 m (pc + 3) ls (.int v :: r.map (mm_tr ad))) := by
    intro r v hr el es em H1 locs1 hz1 hk1 hS1
    subst el; subst es; subst em
    obtain ⟨r1, r2, r3, r4, r5, r6⟩ := rl
    refine kk ad H1 ls locs1 cells slots ⟨hp_grow r1 hk1, fun w hw => ?_, r3, r4, hS1, r6⟩
    rcases List.mem_cons.mp hw with z | z
    · rw [z]; trivial
    · exact hr w z
  rcases (show inf.1 = 0 ∨ inf.1 = 1 ∨ inf.1 = 2 by omega) with z | z | z
  · simp only [mm_s, z, mm_cond] at h
    split at h
    · rename_i k i r
      split at h
      · rename_i c1
        rw [Bool.and_eq_true] at c1
        have k13 : k = 13 := Nat.eq_of_beq_eq_true c1.1
        have r8 : r.length ≤ 8 := Nat.le_of_ble_eq_true c1.2
        subst k13
        cases h
        obtain ⟨hi, ha⟩ := st_13 rl.1 (rl.2.1 (.inr (13, i)) (List.mem_cons_self ..))
        rw [z] at wl
        have dn := done r (mm_slen i) (fun w hw => rl.2.1 w (List.mem_cons_of_mem _ hw)) rfl rfl rfl
        rw [st_len i hi] at dn
        show W p l e R s m args below meth c H locs cells slots Q (F0 m pc ls (.ref (ad 13 i) :: r.map (mm_tr ad)))
        rw [ha]
        exact j_virt (As := []) (b := sa i) (rest := r.map (mm_tr ad)) S (jm_len l base i sa hi) jc_len ji_len jl_len wl ⟨rfl, by decide +kernel⟩ ⟨by omega, by omega⟩ jP_b (vk_recv hv hi hS) hpU hS rfl hsz (by rw [mm_cats]; exact r8) hd ⟨hcl, hsl⟩ dn
      · cases h
    · cases h
  · simp only [mm_s, z, mm_cond] at h
    split at h
    · rename_i x k i r
      split at h
      · rename_i c1
        rw [Bool.and_eq_true] at c1
        have k13 : k = 13 := Nat.eq_of_beq_eq_true c1.1
        have r8 : r.length ≤ 8 := Nat.le_of_ble_eq_true c1.2
        subst k13
        split at h
        · rename_i c2
          cases h
          obtain ⟨hi, ha⟩ := st_13 rl.1 (rl.2.1 (.inr (13, i)) (List.mem_cons_of_mem _ (List.mem_cons_self ..)))
          rw [z] at wl
          have j5 := (jlen_b i hi).1
          rw [st_len i hi, nI_toInt (by omega)] at c2
          have xk : x = nI x.toInt.toNat := Int32.toInt_inj.mp (by rw [nI_toInt (by omega)]; omega)
          have hk2 : x.toInt.toNat < jlen i := by omega
          have dn := done r (mm_sch i x.toInt.toNat) (fun w hw => rl.2.1 w (List.mem_cons_of_mem _ (List.mem_cons_of_mem _ hw))) rfl rfl rfl
          rw [st_ch i hi _ (by omega) hk2] at dn
          show W p l e R s m args below meth c H locs cells slots Q (F0 m pc ls (.int x :: .ref (ad 13 i) :: r.map (mm_tr ad)))
          rw [ha]
          generalize x.toInt.toNat = n at *
          subst xk
          exact j_virt (n := 1) (As := [.int (nI n)]) (b := sa i) (rest := r.map (mm_tr ad)) S (jm_cha l base i n sa hi hk2) jc_cha ji_cha jl_cha wl ⟨rfl, by decide +kernel⟩ ⟨by omega, by omega⟩ jP_b (vk_recv hv hi hS) hpU hS rfl hsz (by rw [mm_cats]; exact r8) hd ⟨hcl, hsl⟩ dn
        · cases h
      · cases h
    · cases h
  · simp only [mm_s, z, mm_cond] at h
    split at h
    · rename_i x k i r
      split at h
      · rename_i c1
        rw [Bool.and_eq_true] at c1
        have k13 : k = 13 := Nat.eq_of_beq_eq_true c1.1
        have r8 : r.length ≤ 8 := Nat.le_of_ble_eq_true c1.2
        subst k13
        cases h
        obtain ⟨hi, ha⟩ := st_13 rl.1 (rl.2.1 (.inr (13, i)) (List.mem_cons_of_mem _ (List.mem_cons_self ..)))
        rw [z] at wl
        have dn := done r (mm_six i x) (fun w hw => rl.2.1 w (List.mem_cons_of_mem _ (List.mem_cons_of_mem _ hw))) rfl rfl rfl
        rw [st_ix hi] at dn
        show W p l e R s m args below meth c H locs cells slots Q (F0 m pc ls (.int x :: .ref (ad 13 i) :: r.map (mm_tr ad)))
        rw [ha]
        exact j_virt (n := 1) (As := [.int x]) (b := sa i) (rest := r.map (mm_tr ad)) S (jm_ix1 l base i sa x hi) jc_ix1 ji_ix1 jl_ix1 wl ⟨rfl, by decide +kernel⟩ ⟨by omega, by omega⟩ jP_b (vk_recv hv hi hS) hpU hS rfl hsz (by rw [mm_cats]; exact r8) hd ⟨hcl, hsl⟩ dn
      · cases h
    · cases h
