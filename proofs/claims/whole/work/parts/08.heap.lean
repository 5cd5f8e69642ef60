/-! The heap's picture: reading a cell, writing a place, a new cell. -/
theorem mm_up_off {I : mm_I} {k i j k' i' : Nat} {x : Int32} (h : ¬ (k' = k ∧ i' = i)) : mm_up I k i j x k' i' = I k' i' := by
  funext j'
  unfold mm_up
  rw [if_neg (fun q => h ⟨q.1, q.2.1⟩)]
theorem mm_up_on (I : mm_I) (k i j : Nat) (x : Int32) : mm_up I k i j x k i = upd (I k i) j x := by
  funext j'
  unfold mm_up upd
  by_cases h : j' = j <;> simp [h]
section MH
variable {D : va_G} {cA : Nat → ClassId} {A : Nat → Prop} {ad : Nat → Nat → Nat} {μ μ' : mm_M} {al : List (Nat × Nat)} {H : Heap}
theorem mm_ws_at {k i : Nat} (h : (k, i) ∈ al) : ∃ q0 : Nat, al[q0]? = some (k, i) ∧ (mm_ws cA ad μ al)[q0]? = some (ad k i, mm_ent cA ad μ k i) := by
  obtain ⟨q0, h0⟩ := List.getElem?_of_mem h
  exact ⟨q0, h0, by unfold mm_ws; rw [List.getElem?_map, h0]; rfl⟩
theorem mm_ws_one (hD : va_D A (mm_ws cA ad μ al)) {q0 q1 : Nat} {a : Nat × Nat} (h0 : al[q0]? = some a) (h1 : al[q1]? = some a) : q0 = q1 := by
  refine hD.1 q0 q1 (mm_wf cA ad μ a) (mm_wf cA ad μ a) ?_ ?_ rfl
  · unfold mm_ws; rw [List.getElem?_map, h0]; rfl
  · unfold mm_ws; rw [List.getElem?_map, h1]; rfl
theorem mm_ws_set (hD : va_D A (mm_ws cA ad μ al)) {q0 k i : Nat} (h0 : al[q0]? = some (k, i)) (he : ∀ k' i', ¬ (k' = k ∧ i' = i) → mm_ent cA ad μ' k' i' = mm_ent cA ad μ k' i') : (mm_ws cA ad μ al).set q0 (ad k i, mm_ent cA ad μ' k i) = mm_ws cA ad μ' al := by
  apply List.ext_getElem?
  intro q
  by_cases hq : q0 = q
  · subst hq
    have hl : q0 < (mm_ws cA ad μ al).length := by unfold mm_ws; rw [List.length_map]; exact (List.getElem?_eq_some_iff.mp h0).1
    rw [List.getElem?_set_self hl]
    unfold mm_ws
    rw [List.getElem?_map, h0]
    rfl
  · rw [List.getElem?_set_ne hq]
    unfold mm_ws
    rw [List.getElem?_map, List.getElem?_map]
    cases h1 : al[q]? with
    | none => rfl
    | some a =>
      obtain ⟨k', i'⟩ := a
      show some (mm_wf cA ad μ (k', i')) = some (mm_wf cA ad μ' (k', i'))
      unfold mm_wf
      rw [he k' i' (fun z => hq (mm_ws_one hD h0 (by rw [h1, z.1, z.2])))]
theorem mm_fs_at {k i j : Nat} (hj : j < mm_nf k) : (mm_fs ad μ k i)[j]? = some (mm_fv ad μ k i j) := by
  unfold mm_fs
  rw [List.getElem?_map, List.getElem?_range hj]
  rfl
theorem mm_fs_set {k i j : Nat} {v : Value} (hv : mm_fv ad μ' k i j = v) (ho : ∀ j', j' ≠ j → mm_fv ad μ' k i j' = mm_fv ad μ k i j') : (mm_fs ad μ k i).set j v = mm_fs ad μ' k i := by
  apply List.ext_getElem?
  intro q
  unfold mm_fs
  by_cases hq : j = q
  · subst hq
    rw [List.getElem?_set]
    simp only [List.length_map, List.length_range, if_true]
    by_cases hl : j < mm_nf k
    · rw [if_pos hl, List.getElem?_map, List.getElem?_range hl, ← hv]
      rfl
    · rw [if_neg hl, List.getElem?_eq_none (by simp; omega)]
  · rw [List.getElem?_set_ne hq, List.getElem?_map, List.getElem?_map]
    by_cases hl : q < mm_nf k
    · rw [List.getElem?_range hl]
      show some _ = some _
      rw [ho q (fun z => hq z.symm)]
    · rw [List.getElem?_eq_none (by simp; omega)]; rfl
/-- an int is written: other cells are as they were -/
theorem mm_ent_up {k i j k' i' : Nat} {x : Int32} (h : ¬ (k' = k ∧ i' = i)) : mm_ent cA ad (μ.1, mm_up μ.2 k i j x) k' i' = mm_ent cA ad μ k' i' := by
  have e : mm_up μ.2 k i j x k' i' = μ.2 k' i' := mm_up_off h
  unfold mm_ent mm_fs mm_fv
  simp only [e]
theorem mm_ent_upF {k i j : Nat} {x : Int32} (hk : k < 20) (ht : mm_ftj k j = 0) : mm_ent cA ad (μ.1, mm_up μ.2 k i j x) k i = .inr (k, (mm_fs ad μ k i).set j (.int x)) := by
  unfold mm_ent
  rw [if_pos hk]
  rw [mm_fs_set (μ' := (μ.1, mm_up μ.2 k i j x))]
  · unfold mm_fv
    rw [ht]
    simp [mm_up]
  · intro j' hj
    unfold mm_fv
    simp [mm_up, hj]
theorem mm_ent_upA {k i j : Nat} {x : Int32} (hk : ¬ k < 20) (hk2 : k < 300) : mm_ent cA ad (μ.1, mm_up μ.2 k i j x) k i = .inl (cA k, μ.1.2.1 k i, .inl (upd (μ.2 k i) j x)) := by
  unfold mm_ent
  rw [if_neg hk, if_pos hk2]
  dsimp only
  rw [mm_up_on]
theorem mm_ent_cp {k i sp k2 i2 dp n k' i' : Nat} (h : ¬ (k' = k2 ∧ i' = i2)) : mm_ent cA ad (μ.1, mm_cp μ.2 k i sp k2 i2 dp n) k' i' = mm_ent cA ad μ k' i' := by
  have e : mm_cp μ.2 k i sp k2 i2 dp n k' i' = μ.2 k' i' := by
    funext j
    unfold mm_cp
    rw [if_neg (fun q => h ⟨q.1, q.2.1⟩)]
  unfold mm_ent mm_fs mm_fv
  simp only [e]
theorem mm_ent_cpA {k i sp k2 i2 dp n : Nat} (hk : ¬ k2 < 20) (hk2 : k2 < 300) : mm_ent cA ad (μ.1, mm_cp μ.2 k i sp k2 i2 dp n) k2 i2 = .inl (cA k2, μ.1.2.1 k2 i2, .inl (va_cpy (μ.2 k i) (μ.2 k2 i2) sp dp n)) := by
  unfold mm_ent
  rw [if_neg hk, if_pos hk2]
  dsimp only
  have e : mm_cp μ.2 k i sp k2 i2 dp n k2 i2 = va_cpy (μ.2 k i) (μ.2 k2 i2) sp dp n := by
    funext j
    unfold mm_cp va_cpy
    by_cases h : dp ≤ j ∧ j < dp + n <;> simp [h]
  rw [e]
/-- a reference is written -/
theorem mm_ent_upr {k i j q k' i' : Nat} (h : ¬ (k' = k ∧ i' = i)) : mm_ent cA ad (mm_upr μ k i j q) k' i' = mm_ent cA ad μ k' i' := by
  have e : ∀ j', (mm_upr μ k i j q).1.2.2.1 k' i' j' = μ.1.2.2.1 k' i' j' := fun j' => by
    unfold mm_upr
    dsimp only
    rw [if_neg (fun z => h ⟨z.1, z.2.1⟩)]
  unfold mm_ent mm_fs mm_fv
  simp only [e]
  rfl
theorem mm_ent_uprF {k i j q t : Nat} (hk : k < 20) (ht : mm_ftj k j = t + 1) : mm_ent cA ad (mm_upr μ k i j (q + 1)) k i = .inr (k, (mm_fs ad μ k i).set j (.ref (ad t q))) := by
  unfold mm_ent
  rw [if_pos hk]
  rw [mm_fs_set (μ' := mm_upr μ k i j (q + 1))]
  · unfold mm_fv
    rw [ht]
    simp [mm_upr, mm_rr, va_rf]
  · intro j' hj
    unfold mm_fv
    simp [mm_upr, hj]
theorem mm_ent_uprA {k i j q : Nat} (hk : ¬ k < 300) : mm_ent cA ad (mm_upr μ k i j (q + 1)) k i = .inl (cA k, μ.1.2.1 k i, .inr (.inr (.inr (.inr (va_up (fun j => mm_rr ad (mm_ek k) (μ.1.2.2.1 k i j)) j (some (ad (mm_ek k) q))))))) := by
  unfold mm_ent
  rw [if_neg (by omega), if_neg hk]
  have e : (fun j' => mm_rr ad (mm_ek k) ((mm_upr μ k i j (q + 1)).1.2.2.1 k i j')) = va_up (fun j => mm_rr ad (mm_ek k) (μ.1.2.2.1 k i j)) j (some (ad (mm_ek k) q)) := by
    funext j'
    unfold mm_upr va_up
    by_cases h : j' = j <;> simp [h, mm_rr]
  rw [e]
  rfl
/-- a new cell: those that are there stay as they are -/
def mm_adn (ad : Nat → Nat → Nat) (k n q : Nat) : Nat → Nat → Nat := fun k' i' => if k' = k ∧ i' = n then q else ad k' i'
theorem mm_adn_old {k n q k' i' : Nat} (h : ¬ (k' = k ∧ i' = n)) : mm_adn ad k n q k' i' = ad k' i' := if_neg h
theorem mm_adn_new {k n q : Nat} : mm_adn ad k n q k n = q := if_pos ⟨rfl, rfl⟩
theorem mm_rr_adn {k q t r : Nat} (h : ∀ z, r = z + 1 → z < μ.1.1 t) : mm_rr (mm_adn ad k (μ.1.1 k) q) t r = mm_rr ad t r := by
  cases r with
  | zero => rfl
  | succ z =>
    have hz := h z rfl
    show some (mm_adn ad k (μ.1.1 k) q t z) = some (ad t z)
    rw [mm_adn_old (fun w => by rw [w.1] at hz; omega)]
theorem mm_ent_new {k q len sl k' i' : Nat} (h : ¬ (k' = k ∧ i' = μ.1.1 k)) (hr : ∀ k i j q, μ.1.2.2.1 k i j = q + 1 → q < μ.1.1 (mm_tg k j)) : mm_ent cA (mm_adn ad k (μ.1.1 k) q) (mm_newk μ k len sl) k' i' = mm_ent cA ad μ k' i' := by
  have el : (mm_newk μ k len sl).1.2.1 k' i' = μ.1.2.1 k' i' := by unfold mm_newk; dsimp only; rw [if_neg h]
  unfold mm_ent
  by_cases h1 : k' < 20
  · rw [if_pos h1, if_pos h1]
    congr 2
    unfold mm_fs
    refine List.map_congr_left fun j _ => ?_
    unfold mm_fv
    cases ht : mm_ftj k' j with
    | zero => rfl
    | succ t =>
      show va_rf (mm_rr (mm_adn ad k (μ.1.1 k) q) t (μ.1.2.2.1 k' i' j)) = _
      rw [mm_rr_adn]
      intro z hz
      have h2 := hr k' i' j z hz
      unfold mm_tg at h2
      rw [if_pos h1, ht] at h2
      exact h2
  · rw [if_neg h1, if_neg h1]
    by_cases h2 : k' < 300
    · rw [if_pos h2, if_pos h2, el]
      rfl
    · rw [if_neg h2, if_neg h2, el]
      have e : (fun j => mm_rr (mm_adn ad k (μ.1.1 k) q) (mm_ek k') ((mm_newk μ k len sl).1.2.2.1 k' i' j)) = (fun j => mm_rr ad (mm_ek k') (μ.1.2.2.1 k' i' j)) := by
        funext j
        show mm_rr (mm_adn ad k (μ.1.1 k) q) (mm_ek k') (μ.1.2.2.1 k' i' j) = _
        rw [mm_rr_adn]
        intro z hz
        have h3 := hr k' i' j z hz
        unfold mm_tg at h3
        rw [if_neg h1] at h3
        exact h3
      rw [e]
theorem mm_ws_new {k q len sl : Nat} (hal : ∀ k i, (k, i) ∈ al ↔ i < μ.1.1 k) (hr : ∀ k i j q, μ.1.2.2.1 k i j = q + 1 → q < μ.1.1 (mm_tg k j)) : mm_ws cA (mm_adn ad k (μ.1.1 k) q) (mm_newk μ k len sl) (al ++ [(k, μ.1.1 k)]) = mm_ws cA ad μ al ++ [(q, mm_ent cA (mm_adn ad k (μ.1.1 k) q) (mm_newk μ k len sl) k (μ.1.1 k))] := by
  unfold mm_ws
  rw [List.map_append]
  congr 1
  · refine List.map_congr_left fun x hx => ?_
    obtain ⟨k', i'⟩ := x
    have h1 := (hal k' i').mp hx
    have h2 : ¬ (k' = k ∧ i' = μ.1.1 k) := fun z => by rw [z.1, z.2] at h1; omega
    unfold mm_wf
    rw [mm_ent_new h2 hr, mm_adn_old h2]
  · show [mm_wf _ _ _ _] = _
    unfold mm_wf
    rw [mm_adn_new]
end MH
