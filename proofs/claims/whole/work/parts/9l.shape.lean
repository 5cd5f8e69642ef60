/-! The shape behind the constructors is sh0's. -/
theorem arr_cg {c : ClassId} {n : Nat} {f g : Nat → Value} (h : ∀ j, j < n → f j = g j) : arrV c n f = arrV c n g := by
  unfold arrV
  congr 1
  congr 1
  funext j
  exact h j.val j.isLt
theorem at_len {l : List Nat} : ∀ {k}, l.length ≤ k → mm_at 0 l k = 0 := by
  induction l with
  | nil => intro k _; rfl
  | cons a l ih =>
    intro k h
    cases k with
    | zero => rw [List.length_cons] at h; omega
    | succ k => exact ih (by rw [List.length_cons] at h; omega)
theorem sn_len : sc_n.length ≤ 304 := by decide +kernel
theorem sn_hi {k : Nat} (h : 304 ≤ k) : sn k = 0 := at_len (Nat.le_trans sn_len h)
def ck_hr : Bool := (List.range 304).all fun k => (List.range (sn k)).all fun i => (List.range (bif Nat.blt k 20 then mm_nf k else sl k i)).all fun j => match sR k i j with
  | 0 => true
  | q + 1 => Nat.blt q (sn (mm_tg k j))
theorem ck_hr_ok : ck_hr = true := by decide +kernel
theorem cz_f {μ : mm_M} (h : cz_chk μ = true) : μ.1.2.2.2.1 = 233 ∧ μ.1.2.2.2.2 = 12328 ∧ (∀ k, k < 304 → μ.1.1 k = sn k) ∧ (∀ k i, k < 304 → i < sn k → ¬ k < 20 → μ.1.2.1 k i = sl k i) ∧ (∀ k i j, k < 20 → i < sn k → j < mm_nf k → mm_ftj k j ≠ 0 → μ.1.2.2.1 k i j = sR k i j) ∧ ∀ k i j, 300 ≤ k → k < 304 → i < sn k → j < sl k i → μ.1.2.2.1 k i j = sR k i j := by
  unfold cz_chk at h
  simp only [Bool.and_eq_true] at h
  obtain ⟨⟨h1, h2⟩, h3⟩ := h
  have g : ∀ k, k < 304 → (Nat.beq (μ.1.1 k) (sn k) && (List.range (sn k)).all fun i => (Nat.blt k 20 || Nat.beq (μ.1.2.1 k i) (sl k i)) && (bif Nat.blt k 20 then (List.range (mm_nf k)).all fun j => Nat.beq (mm_ftj k j) 0 || Nat.beq (μ.1.2.2.1 k i j) (sR k i j) else bif Nat.ble 300 k then (List.range (sl k i)).all fun j => Nat.beq (μ.1.2.2.1 k i j) (sR k i j) else true)) = true := fun k hk => List.all_eq_true.mp h3 k (List.mem_range.mpr hk)
  have g1 : ∀ k, k < 304 → μ.1.1 k = sn k := fun k hk => by
    have := g k hk
    rw [Bool.and_eq_true] at this
    exact Nat.eq_of_beq_eq_true this.1
  have g2 : ∀ k i, k < 304 → i < sn k → (Nat.blt k 20 || Nat.beq (μ.1.2.1 k i) (sl k i)) = true ∧ (bif Nat.blt k 20 then (List.range (mm_nf k)).all fun j => Nat.beq (mm_ftj k j) 0 || Nat.beq (μ.1.2.2.1 k i j) (sR k i j) else bif Nat.ble 300 k then (List.range (sl k i)).all fun j => Nat.beq (μ.1.2.2.1 k i j) (sR k i j) else true) = true := fun k i hk hi => by
    have := g k hk
    rw [Bool.and_eq_true] at this
    have := List.all_eq_true.mp this.2 i (List.mem_range.mpr hi)
    rw [Bool.and_eq_true] at this
    exact this
  have bl : ∀ k, k < 20 → Nat.blt k 20 = true := fun k hk => Nat.ble_eq_true_of_le hk
  have bn : ∀ k, ¬ k < 20 → Nat.blt k 20 = false := fun k hk => by
    cases q : Nat.blt k 20 with
    | false => rfl
    | true => exact absurd (Nat.le_of_ble_eq_true q) hk
  refine ⟨Nat.eq_of_beq_eq_true h1, Nat.eq_of_beq_eq_true h2, g1, fun k i hk hi h20 => ?_, fun k i j hk hi hj hf => ?_, fun k i j hk hk2 hi hj => ?_⟩
  · have := (g2 k i hk hi).1
    rw [bn k h20, Bool.false_or] at this
    exact Nat.eq_of_beq_eq_true this
  · have := (g2 k i (by omega) hi).2
    rw [bl k hk] at this
    have := List.all_eq_true.mp this j (List.mem_range.mpr hj)
    rw [Bool.or_eq_true] at this
    rcases this with q | q
    · exact absurd (Nat.eq_of_beq_eq_true q) hf
    · exact Nat.eq_of_beq_eq_true q
  · have := (g2 k i hk2 hi).2
    rw [bn k (by omega), show Nat.ble 300 k = true from Nat.ble_eq_true_of_le hk] at this
    have := List.all_eq_true.mp this j (List.mem_range.mpr hj)
    exact Nat.eq_of_beq_eq_true this
theorem hr_sh0 (I : mm_I) : mm_hr (sh0, I) := by
  intro k i j q hi hj hq
  have hi : i < sn k := hi
  have hq : sR k i j = q + 1 := hq
  have hk : k < 304 := by
    rcases Nat.lt_or_ge k 304 with z | z
    · exact z
    · rw [sn_hi z] at hi; omega
  have hj2 : j < (bif Nat.blt k 20 then mm_nf k else sl k i) := by
    unfold mm_sj at hj
    by_cases z : k < 20
    · rw [if_pos z] at hj
      rw [show Nat.blt k 20 = true from Nat.ble_eq_true_of_le z]
      exact hj
    · rw [if_neg z] at hj
      have : Nat.blt k 20 = false := by
        cases w : Nat.blt k 20 with
        | false => rfl
        | true => exact absurd (Nat.le_of_ble_eq_true w) z
      rw [this]
      exact hj
  have h := ck_hr_ok
  unfold ck_hr at h
  have h := List.all_eq_true.mp h k (List.mem_range.mpr hk)
  have h := List.all_eq_true.mp h i (List.mem_range.mpr hi)
  have h := List.all_eq_true.mp h j (List.mem_range.mpr hj2)
  rw [hq] at h
  exact Nat.le_of_ble_eq_true h
section SH
variable {D : va_G} {ca : Nat → ClassId} {base b L : Nat} {xs : Nat → Int32} {sa : Nat → Nat} {ad : Nat → Nat → Nat} {μ : mm_M} {H : Heap}
theorem hp_cnt (hc : cz_chk μ = true) (h : mm_hp D ca base b L xs sa ad μ H) : μ.1.1 = sn := by
  obtain ⟨al, h1, h2, -⟩ := h
  obtain ⟨-, -, c3, -⟩ := cz_f hc
  funext k
  rcases Nat.lt_or_ge k 304 with z | z
  · exact c3 k z
  · rw [sn_hi z]
    rcases Nat.eq_zero_or_pos (μ.1.1 k) with w | w
    · exact w
    · have := h2 (k, 0) ((h1 k 0).mpr w)
      unfold mm_kok at this
      simp only [Bool.or_eq_true, Bool.and_eq_true, decide_eq_true_eq] at this
      omega
theorem hp_sh0 (hc : cz_chk μ = true) (h : mm_hp D ca base b L xs sa ad μ H) : mm_hp D ca base b L xs sa ad (sh0, μ.2) H := by
  have hcnt := hp_cnt hc h
  obtain ⟨al, h1, h2, h3, h4, h5, h6, h7, h8, h9, h10⟩ := h
  obtain ⟨c1, c2, c3, c4, c5, c6⟩ := cz_f hc
  have mem : ∀ p k i, al[p]? = some (k, i) → i < sn k ∧ k < 304 := fun p k i hp => by
    have hi : i < sn k := by rw [← hcnt]; exact (h1 k i).mp (List.mem_of_getElem? hp)
    refine ⟨hi, ?_⟩
    rcases Nat.lt_or_ge k 304 with z | z
    · exact z
    · rw [sn_hi z] at hi; omega
  refine ⟨al, fun k i => by rw [h1 k i, hcnt]; exact Iff.rfl, h2, fun p q hq => ?_, ⟨fun i j p q hp hq e => ?_, fun k q hq => ?_⟩, hr_sh0 _, fun z => absurd z (Nat.lt_irrefl _), h7, h8, h9, h10⟩
  · unfold mm_ws at hq
    rw [List.getElem?_map] at hq
    cases ha : al[p]? with
    | none => rw [ha] at hq; cases hq
    | some a =>
      obtain ⟨k, i⟩ := a
      rw [ha] at hq
      cases hq
      obtain ⟨hi, hk⟩ := mem p k i ha
      have old : va_at D mm_cl (mm_wf (mm_ca ca) ad μ (k, i)) H := h3 p _ (by unfold mm_ws; rw [List.getElem?_map, ha]; rfl)
      show va_at D mm_cl (mm_wf (mm_ca ca) ad (sh0, μ.2) (k, i)) H
      unfold mm_wf mm_ent at old ⊢
      dsimp only at old ⊢
      by_cases z : k < 20
      · rw [if_pos z] at old ⊢
        have : mm_fs ad (sh0, μ.2) k i = mm_fs ad μ k i := by
          unfold mm_fs
          refine List.map_congr_left fun j hj => ?_
          have hj := List.mem_range.mp hj
          unfold mm_fv
          cases ht : mm_ftj k j with
          | zero => rfl
          | succ t =>
            show va_rf (mm_rr ad t (sR k i j)) = va_rf (mm_rr ad t (μ.1.2.2.1 k i j))
            rw [c5 k i j z hi hj (by omega)]
        rw [this]
        exact old
      · rw [if_neg z] at old ⊢
        have hl : μ.1.2.1 k i = sl k i := c4 k i hk hi z
        by_cases z2 : k < 300
        · rw [if_pos z2] at old ⊢
          rw [hl] at old
          exact old
        · rw [if_neg z2] at old ⊢
          rw [hl] at old
          unfold va_at at old ⊢
          dsimp only at old ⊢
          rw [vp_cell_q] at old ⊢
          rw [old]
          refine congrArg some (arr_cg fun j hj => ?_)
          rw [c6 k i j (by omega) hk hi hj]
          rfl
  · unfold mm_ws at hp hq
    rw [List.getElem?_map] at hp hq
    cases ha : al[i]? with
    | none => rw [ha] at hp; cases hp
    | some a =>
      cases hb : al[j]? with
      | none => rw [hb] at hq; cases hq
      | some a' =>
        rw [ha] at hp
        rw [hb] at hq
        cases hp
        cases hq
        exact h4.1 i j (mm_wf (mm_ca ca) ad μ a) (mm_wf (mm_ca ca) ad μ a') (by unfold mm_ws; rw [List.getElem?_map, ha]; rfl) (by unfold mm_ws; rw [List.getElem?_map, hb]; rfl) e
  · unfold mm_ws at hq
    rw [List.getElem?_map] at hq
    cases ha : al[k]? with
    | none => rw [ha] at hq; cases hq
    | some a =>
      rw [ha] at hq
      cases hq
      exact h4.2 k (mm_wf (mm_ca ca) ad μ a) (by unfold mm_ws; rw [List.getElem?_map, ha]; rfl)
theorem rl_sh0 {s : State} {M : Nat} {ad0 : Nat → Nat → Nat} {μ0 : mm_M} {l : mm_L} {st : List mm_V} {ls : Array Slot} {locs : List Loc} {cells slots : Nat} (hc : cz_chk μ = true) (h : mm_rl s D ca base b L xs sa M ad0 μ0 l st μ ad H ls locs cells slots) : mm_rl s D ca base b L xs sa M ad0 μ0 l st (sh0, μ.2) ad H ls locs cells slots := by
  obtain ⟨r1, r2, r3, r4, r5, r6, r7, r8, r9⟩ := h
  have hcnt := hp_cnt hc r1
  obtain ⟨c1, c2, -⟩ := cz_f hc
  rw [hcnt] at r2 r3 r9
  rw [c1] at r6
  rw [c2] at r7
  exact ⟨hp_sh0 hc r1, r2, r3, r4, r5, r6, r7, r8, r9⟩
end SH
