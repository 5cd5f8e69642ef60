/-! What the machine's state says of the heap, the locals and the stack. -/
def mm_tr (ad : Nat → Nat → Nat) : mm_V → Value
  | .inl x => .int x
  | .inr q => .ref (ad q.1 q.2)
def mm_rr (ad : Nat → Nat → Nat) (t : Nat) : Nat → Option Nat
  | 0 => none
  | q + 1 => some (ad t q)
def mm_fv (ad : Nat → Nat → Nat) (μ : mm_M) (k i j : Nat) : Value := match mm_ftj k j with
  | 0 => .int (μ.2 k i j)
  | t + 1 => va_rf (mm_rr ad t (μ.1.2.2.1 k i j))
def mm_fs (ad : Nat → Nat → Nat) (μ : mm_M) (k i : Nat) : List Value := (List.range (mm_nf k)).map (mm_fv ad μ k i)
def mm_ent (cA : Nat → ClassId) (ad : Nat → Nat → Nat) (μ : mm_M) (k i : Nat) : va_E :=
  if k < 20 then .inr (k, mm_fs ad μ k i) else if k < 300 then .inl (cA k, μ.1.2.1 k i, .inl (μ.2 k i)) else .inl (cA k, μ.1.2.1 k i, .inr (.inr (.inr (.inr (fun j => mm_rr ad (mm_ek k) (μ.1.2.2.1 k i j))))))
def mm_wf (cA : Nat → ClassId) (ad : Nat → Nat → Nat) (μ : mm_M) : Nat × Nat → Nat × va_E := fun q => (ad q.1 q.2, mm_ent cA ad μ q.1 q.2)
def mm_ws (cA : Nat → ClassId) (ad : Nat → Nat → Nat) (μ : mm_M) (al : List (Nat × Nat)) : va_W := al.map (mm_wf cA ad μ)
def mm_kok (k : Nat) : Bool := k < 13 || (20 ≤ k && k < 199) || (200 ≤ k && k < 220) || (300 ≤ k && k < 304)
def mm_ca (c : Nat → ClassId) (k : Nat) : ClassId := if k < 200 then c 0 else if k < 210 then c 1 else if k < 220 then c 2 else if k = 300 then c 3 else if k = 301 then c 4 else if k = 302 then c 5 else c 6
def mm_tys (c : Nat → ClassId) : List (ClassId × FieldType) := [(c 0, .int), (c 1, .boolean), (c 2, .char), (c 3, .object "HillPaths$Stretch"), (c 4, .object "HillPaths$Text"), (c 5, .object "HillPaths$Counter"), (c 6, .object "HillPaths$Hut")]
/-- the kind that a slot's reference points to -/
def mm_tg (k j : Nat) : Nat := if k < 20 then mm_ftj k j - 1 else mm_ek k
/-- a slot that a cell has -/
def mm_sj (μ : mm_M) (k i j : Nat) : Prop := if k < 20 then j < mm_nf k else j < μ.1.2.1 k i
/-- references point to what is there -/
def mm_hr (μ : mm_M) : Prop := ∀ k i j q, i < μ.1.1 k → mm_sj μ k i j → μ.1.2.2.1 k i j = q + 1 → q < μ.1.1 (mm_tg k j)
/-- while cells are made (233 in all): nothing stands where no cell is -/
def mm_hz (μ : mm_M) : Prop := μ.1.2.2.2.1 < 233 → (∀ k i j q, μ.1.2.2.1 k i j = q + 1 → q < μ.1.1 (mm_tg k j)) ∧ (∀ k i j, μ.1.1 k ≤ i → k ≠ 199 → μ.2 k i j = 0 ∧ μ.1.2.2.1 k i j = 0)
def mm_hp (D : va_G) (ca : Nat → ClassId) (base b L : Nat) (xs : Nat → Int32) (sa : Nat → Nat) (ad : Nat → Nat → Nat) (μ : mm_M) (H : Heap) : Prop :=
  ∃ al : List (Nat × Nat), (∀ k i, (k, i) ∈ al ↔ i < μ.1.1 k) ∧ (∀ q ∈ al, mm_kok q.1 = true) ∧ va_P D mm_cl (mm_ws (mm_ca ca) ad μ al) H ∧ va_D (fun q => base ≤ q) (mm_ws (mm_ca ca) ad μ al) ∧
    mm_hr μ ∧ mm_hz μ ∧ ad 199 0 = b ∧ (∀ i, i < 8 → ad 13 i = sa i) ∧ (∀ j, j < L → μ.2 199 0 j = xs j) ∧ (μ.2 199 1 0).toInt = L
def mm_as (ad : Nat → Nat → Nat) : Nat → mm_L → List (Nat × Value)
  | _, [] => []
  | i, none :: l => mm_as ad (i + 1) l
  | i, some v :: l => (i, mm_tr ad v) :: mm_as ad (i + 1) l
def mm_vd (n : Nat → Nat) : mm_V → Prop
  | .inl _ => True
  | .inr q => q.2 < n q.1 ∨ (q.1 = 199 ∧ q.2 = 0) ∨ (q.1 = 13 ∧ q.2 < 8)
theorem mm_vd_mono {n n' : Nat → Nat} (h : ∀ k, n k ≤ n' k) {v : mm_V} (hv : mm_vd n v) : mm_vd n' v := by
  match v, hv with
  | .inl _, _ => trivial
  | .inr q, .inl h1 => exact Or.inl (Nat.lt_of_lt_of_le h1 (h _))
  | .inr q, .inr h1 => exact Or.inr h1
theorem mm_as_mem {ad : Nat → Nat → Nat} {x : Nat × Value} : ∀ {l : mm_L} {b : Nat}, x ∈ mm_as ad b l ↔ ∃ j v, mm_nth l j = some (some v) ∧ x = (b + j, mm_tr ad v)
  | [], b => by simp [mm_as, mm_nth]
  | none :: l, b => by
    rw [mm_as, mm_as_mem]
    constructor
    · rintro ⟨j, v, h1, h2⟩
      exact ⟨j + 1, v, h1, by rw [h2]; congr 1; omega⟩
    · rintro ⟨j, v, h1, h2⟩
      cases j with
      | zero => simp [mm_nth] at h1
      | succ j => exact ⟨j, v, h1, by rw [h2]; congr 1; omega⟩
  | some w :: l, b => by
    rw [mm_as, List.mem_cons, mm_as_mem]
    constructor
    · rintro (h | ⟨j, v, h1, h2⟩)
      · exact ⟨0, w, rfl, h⟩
      · exact ⟨j + 1, v, h1, by rw [h2]; congr 1; omega⟩
    · rintro ⟨j, v, h1, h2⟩
      cases j with
      | zero =>
        left
        have e : w = v := by simpa [mm_nth] using h1
        subst e; exact h2
      | succ j => exact Or.inr ⟨j, v, h1, by rw [h2]; congr 1; omega⟩
theorem mm_nth_set {α : Type} : ∀ (l : List α) (i j : Nat) (a x : α), mm_nth (l.set i a) j = some x → (j = i ∧ x = a) ∨ (j ≠ i ∧ mm_nth l j = some x)
  | [], i, j, a, x, h => by simp [mm_nth] at h
  | b :: l, 0, 0, a, x, h => Or.inl ⟨rfl, (Option.some.inj h).symm⟩
  | b :: l, 0, j + 1, a, x, h => Or.inr ⟨by omega, h⟩
  | b :: l, i + 1, 0, a, x, h => Or.inr ⟨by omega, h⟩
  | b :: l, i + 1, j + 1, a, x, h => by
    rcases mm_nth_set l i j a x h with ⟨e, e2⟩ | ⟨e, e2⟩
    · exact Or.inl ⟨by omega, e2⟩
    · exact Or.inr ⟨by omega, e2⟩
theorem mm_cat (ad : Nat → Nat → Nat) (v : mm_V) : (mm_tr ad v).category = 1 := by cases v <;> rfl
theorem mm_lv_sub {ls : Array Slot} {nL : Nat} {l l' : List (Nat × Value)} (h : lv_has ls nL l) (hs : ∀ q ∈ l', q ∈ l) : lv_has ls nL l' := ⟨h.1, h.2.1, fun q hq => h.2.2 q (hs q hq)⟩
theorem mm_lv_get {ls : Array Slot} {nL : Nat} {ad : Nat → Nat → Nat} {l : mm_L} (h : lv_has ls nL (mm_as ad 0 l)) {i : Nat} {v : mm_V} (hv : mm_nth l i = some (some v)) : ls[i]? = some (.val (mm_tr ad v)) := by
  have h1 := h.2.2 (0 + i, mm_tr ad v) (mm_as_mem.mpr ⟨i, v, hv, rfl⟩)
  simpa using h1
/-- a store into the locals -/
theorem mm_lv_put {ls' : Array Slot} {nL : Nat} {ad : Nat → Nat → Nat} {l : mm_L} {i : Nat} {v : mm_V} (h : lv_has ls' nL ((i, mm_tr ad v) :: (mm_as ad 0 l).filter (fun q => !(q.1 == i) && !(q.1 + 1 == i && q.2.category == 2)))) : lv_has ls' nL (mm_as ad 0 (l.set i (some v))) := by
  refine mm_lv_sub h fun q hq => ?_
  obtain ⟨j, w, h1, h2⟩ := mm_as_mem.mp hq
  subst h2
  rcases mm_nth_set l i j _ _ h1 with ⟨e, e2⟩ | ⟨e, e2⟩
  · subst e
    cases e2
    rw [Nat.zero_add]
    exact List.mem_cons_self
  · refine List.mem_cons_of_mem _ (List.mem_filter.mpr ⟨mm_as_mem.mpr ⟨j, w, e2, rfl⟩, ?_⟩)
    have hc := mm_cat ad w
    simp [hc]
    omega
/-- the addresses of what is there stay -/
theorem mm_tr_ext {ad ad' : Nat → Nat → Nat} {n : Nat → Nat} (h : ∀ k i, i < n k → ad' k i = ad k i) (h9 : ad' 199 0 = ad 199 0) (h13 : ∀ i, i < 8 → ad' 13 i = ad 13 i) {v : mm_V} (hv : mm_vd n v) : mm_tr ad' v = mm_tr ad v := by
  match v, hv with
  | .inl _, _ => rfl
  | .inr (k, i), .inl h1 => exact congrArg Value.ref (h k i h1)
  | .inr (k, i), .inr (.inl ⟨h1, h2⟩) =>
    dsimp only at h1 h2
    subst h1; subst h2
    exact congrArg Value.ref h9
  | .inr (k, i), .inr (.inr ⟨h1, h2⟩) =>
    dsimp only at h1 h2
    subst h1
    exact congrArg Value.ref (h13 i h2)
theorem mm_map_ext {ad ad' : Nat → Nat → Nat} {n : Nat → Nat} (h : ∀ k i, i < n k → ad' k i = ad k i) (h9 : ad' 199 0 = ad 199 0) (h13 : ∀ i, i < 8 → ad' 13 i = ad 13 i) {st : List mm_V} (hv : ∀ v ∈ st, mm_vd n v) : st.map (mm_tr ad') = st.map (mm_tr ad) := List.map_congr_left fun v hm => mm_tr_ext h h9 h13 (hv v hm)
theorem mm_as_ext {ad ad' : Nat → Nat → Nat} {n : Nat → Nat} (h : ∀ k i, i < n k → ad' k i = ad k i) (h9 : ad' 199 0 = ad 199 0) (h13 : ∀ i, i < 8 → ad' 13 i = ad 13 i) : ∀ {l : mm_L} {b : Nat}, (∀ i v, mm_nth l i = some (some v) → mm_vd n v) → mm_as ad' b l = mm_as ad b l
  | [], b, _ => rfl
  | none :: l, b, hv => by rw [mm_as, mm_as]; exact mm_as_ext h h9 h13 (fun i v hi => hv (i + 1) v hi)
  | some w :: l, b, hv => by
    rw [mm_as, mm_as, mm_as_ext h h9 h13 (fun i v hi => hv (i + 1) v hi), mm_tr_ext h h9 h13 (hv 0 w rfl)]
