/-! A method's body: what is known at each of its instructions. -/
theorem mm_big_of {w : Cond} (h : w ∈ tables_1) (hg : goodWord w = true) : w ∈ mm_big := List.mem_filter.mpr ⟨List.mem_append_right _ h, hg⟩
theorem mm_all {α : Type} {l : List α} {f : α → Bool} (h : l.all f = true) {a : α} (ha : a ∈ l) : f a = true := List.all_eq_true.mp h a ha
theorem mm_mem_tab {n : Nat} {w : Cond} (h : decide (tables_1[n]? = some w) = true) : w ∈ tables_1 := List.mem_of_getElem? (of_decide_eq_true h)
def mm_nw (s : State) : Prop := (∀ q ∈ wx_n, va_Nw (.methodLinkNest (mm_cs q.1) q.2.1 (mm_my q.2.2.1) "HillPaths") s) ∧ va_AO "HillPaths$Stretch" s ∧ va_AO "HillPaths$Text" s ∧ va_AO "HillPaths$Counter" s ∧ va_AO "HillPaths$Hut" s
/-- the String constants' cells and bytes, and what their methods read, lie below base -/
def mm_ss (base : Nat) (sa : Nat → Nat) (U : State) (H : Heap) : Prop := (∃ sv : Nat → Nat, vk_S 8 [5, 4, 5, 4, 3, 3, 3, 3] mm_st sa sv (fun q => base ≤ q) U H) ∧ va_Z "java/lang/String" "COMPACT_STRINGS" "Z" (.int 1) (fun q => base ≤ q) U H ∧ va_Zq "jdk/internal/util/Preconditions" "SIOOBE_FORMATTER" "Ljava/util/function/BiFunction;" (fun q => base ≤ q) U H
theorem mm_ss_mv {base : Nat} {sa : Nat → Nat} {u U : State} {H : Heap} (hvm : u.vm.Alike U.vm) (h : mm_ss base sa u H) : mm_ss base sa U H := by
  obtain ⟨⟨sv, h1⟩, h2, h3⟩ := h
  exact ⟨⟨sv, vk_S.moved hvm h1⟩, va_Z.moved hvm h2, va_Zq.moved hvm h3⟩
theorem mm_ss_kp {base : Nat} {sa : Nat → Nat} {U : State} {H H1 : Heap} (h : mm_ss base sa U H) (hq : ∀ a : Nat, a < H.size → ¬ base ≤ a → H1[a]? = H[a]?) : mm_ss base sa U H1 := by
  obtain ⟨⟨sv, h1⟩, h2, h3⟩ := h
  exact ⟨⟨sv, vk_S.kept h1 hq⟩, va_Z.kept h2 hq, va_Zq.kept h3 hq⟩
def mm_sx (base : Nat) (sa : Nat → Nat) (s : State) : Prop := (∀ q ∈ wx_r, vk_R (mm_cs q.1) q.2.1 (mm_at "" mm_tx q.2.2) (sa q.2.2) s) ∧ mm_ss base sa s s.heap
/-- the machine, the method, the tables, the script and the String constants -/
def mm_cx (p : Program) (s : State) (m : MethodId) (args : Array Value) (meth : Method) (c : Code) (D : va_G) (ca : Nat → ClassId) (base b L : Nat) (xs : Nat → Int32) (sa : Nat → Nat) (M : Nat) : Prop :=
  p.tables.exec = Jvm.exec ∧ c.code = mm_mc M ∧ c.maxLocals = NN M ∧ s.vm.findClass (mm_cs (mm_mo M)) = some m.cls ∧ (∀ w ∈ mm_big, w.before args s = true) ∧ va_K D mm_cl (mm_tys ca) s ∧ meth.name = (mm_my M).name ∧ base ≤ s.heap.size ∧ va_X b L xs s s.heap ∧ b < base ∧ mm_nw s ∧ mm_sx base sa s ∧ meth.locks = false
/-- where the body stands -/
def mm_rl (s : State) (D : va_G) (ca : Nat → ClassId) (base b L : Nat) (xs : Nat → Int32) (sa : Nat → Nat) (M : Nat) (ad0 : Nat → Nat → Nat) (μ0 : mm_M) (l : mm_L) (st : List mm_V) (μ : mm_M) (ad : Nat → Nat → Nat) (H : Heap) (ls : Array Slot) (locs : List Loc) (cells slots : Nat) : Prop :=
  mm_hp D ca base b L xs sa ad μ H ∧ (∀ v ∈ st, mm_vd μ.1.1 v) ∧ (∀ i v, mm_nth l i = some (some v) → mm_vd μ.1.1 v) ∧ lv_has ls (NN M) (mm_as ad 0 l) ∧ va_S (fun q => base ≤ q) s.heap H locs ∧ μ0.1.2.2.2.1 + cells = μ.1.2.2.2.1 ∧ μ0.1.2.2.2.2 + slots = μ.1.2.2.2.2 ∧ (∀ k i, i < μ0.1.1 k → ad k i = ad0 k i) ∧ (∀ k, μ0.1.1 k ≤ μ.1.1 k)
def mm_hasf (ow idx k j : Nat) : Bool := wx_f.any fun q => q.1 == ow && q.2.1 == idx && q.2.2.1 == k && q.2.2.2.1 == j
def mm_hasc (ow idx : Nat) (v : Int32) : Bool := wx_c.any fun q => q.1 == ow && q.2.1 == idx && q.2.2.1 == v
def mm_has3 (w : List (Nat × Nat × Nat × Nat)) (ow idx k : Nat) : Bool := w.any fun q => q.1 == ow && q.2.1 == idx && q.2.2.1 == k
theorem mm_hasf_ok {ow idx k j : Nat} (h : mm_hasf ow idx k j = true) : Cond.fieldLink (mm_cs ow) idx (mm_tf k j).1 (mm_tf k j).2.1 (mm_tf k j).2.2.1 ∈ mm_big := by
  obtain ⟨q, hq, h1⟩ := List.any_eq_true.mp h
  simp only [Bool.and_eq_true, beq_iff_eq] at h1
  obtain ⟨⟨⟨e1, e2⟩, e3⟩, e4⟩ := h1
  subst e1; subst e2; subst e3; subst e4
  exact mm_big_of (mm_mem_tab (mm_all wx_f_ok hq)) rfl
theorem mm_hasc_ok {ow idx : Nat} {v : Int32} (h : mm_hasc ow idx v = true) : Cond.constant (mm_cs ow) idx v ∈ mm_big := by
  obtain ⟨q, hq, h1⟩ := List.any_eq_true.mp h
  simp only [Bool.and_eq_true, beq_iff_eq] at h1
  obtain ⟨⟨e1, e2⟩, e3⟩ := h1
  subst e1; subst e2; subst e3
  exact mm_big_of (mm_mem_tab (mm_all wx_c_ok hq)) rfl
theorem mm_hask_ok {ow idx k : Nat} (h : mm_has3 wx_k ow idx k = true) : Cond.classLink (mm_cs ow) idx (mm_cs k) ∈ mm_big := by
  obtain ⟨q, hq, h1⟩ := List.any_eq_true.mp h
  simp only [Bool.and_eq_true, beq_iff_eq] at h1
  obtain ⟨⟨e1, e2⟩, e3⟩ := h1
  subst e1; subst e2; subst e3
  exact mm_big_of (mm_mem_tab (mm_all wx_k_ok hq)) rfl
theorem mm_hasm_ok {ow idx k : Nat} (h : mm_has3 wx_m ow idx k = true) : Cond.methodLink (mm_cs ow) idx (mm_my k) ∈ mm_big := by
  obtain ⟨q, hq, h1⟩ := List.any_eq_true.mp h
  simp only [Bool.and_eq_true, beq_iff_eq] at h1
  obtain ⟨⟨e1, e2⟩, e3⟩ := h1
  subst e1; subst e2; subst e3
  exact mm_big_of (mm_mem_tab (mm_all wx_m_ok hq)) rfl
theorem mm_hass_ok {ow idx k : Nat} (h : mm_has3 wx_s ow idx k = true) : Cond.methodLink (mm_cs ow) idx (mm_sy k) ∈ mm_big := by
  obtain ⟨q, hq, h1⟩ := List.any_eq_true.mp h
  simp only [Bool.and_eq_true, beq_iff_eq] at h1
  obtain ⟨⟨e1, e2⟩, e3⟩ := h1
  subst e1; subst e2; subst e3
  exact mm_big_of (mm_mem_tab (mm_all wx_s_ok hq)) rfl
theorem mm_has_n {ow idx k : Nat} (h : mm_has3 wx_n ow idx k = true) : ∃ q ∈ wx_n, q.1 = ow ∧ q.2.1 = idx ∧ q.2.2.1 = k := by
  obtain ⟨q, hq, h1⟩ := List.any_eq_true.mp h
  simp only [Bool.and_eq_true, beq_iff_eq] at h1
  exact ⟨q, hq, h1.1.1, h1.1.2, h1.2⟩
theorem mm_cl_at {k : Nat} (hk : k < 13) : mm_cl[k]? = some (mm_cs k, mm_tf k, mm_nf k) := by
  match k, hk with
  | 0, _ => rfl
  | 1, _ => rfl
  | 2, _ => rfl
  | 3, _ => rfl
  | 4, _ => rfl
  | 5, _ => rfl
  | 6, _ => rfl
  | 7, _ => rfl
  | 8, _ => rfl
  | 9, _ => rfl
  | 10, _ => rfl
  | 11, _ => rfl
  | 12, _ => rfl
theorem mm_cl_ws {k : Nat} (hk : k < 13) : ∀ w ∈ u_ws (mm_cs k) (mm_tf k) (mm_nf k), w ∈ mm_big := by
  intro w hw
  have h := mm_all (mm_all mm_cl_in (List.mem_of_getElem? (mm_cl_at hk))) hw
  simp only [Bool.and_eq_true, decide_eq_true_eq] at h
  exact mm_big_of h.1 h.2
theorem mm_cl_nm {k : Nat} (hk : k < 13) : ∀ a, a < mm_nf k → ∀ b, b < mm_nf k → a ≠ b → (mm_tf k a).2.1 ≠ (mm_tf k b).2.1 := by
  match k, hk with
  | 0, _ => exact nm_0
  | 1, _ => exact nm_1
  | 2, _ => exact nm_2
  | 3, _ => exact nm_3
  | 4, _ => exact nm_4
  | 5, _ => exact nm_5
  | 6, _ => exact nm_6
  | 7, _ => exact nm_7
  | 8, _ => exact nm_8
  | 9, _ => exact nm_9
  | 10, _ => exact nm_10
  | 11, _ => exact nm_11
  | 12, _ => exact nm_12
theorem mm_cl_ty {k : Nat} (hk : k < 13) : ∀ j, j < mm_nf k → parseFieldDescriptor (mm_tf k j).2.2.1 = some (mm_ty k j) := by
  match k, hk with
  | 0, _ => exact tk_0
  | 1, _ => exact tk_1
  | 2, _ => exact tk_2
  | 3, _ => exact tk_3
  | 4, _ => exact tk_4
  | 5, _ => exact tk_5
  | 6, _ => exact tk_6
  | 7, _ => exact tk_7
  | 8, _ => exact tk_8
  | 9, _ => exact tk_9
  | 10, _ => exact tk_10
  | 11, _ => exact tk_11
  | 12, _ => exact tk_12
/-- what a plain instruction's row must say -/
def mm_ce (M : Nat) (e : mm_E) : Bool := decide (decode (mm_mc M) e.1 = .ok (e.2.1, e.2.2.1)) && (match e.2.1 with
  | .iconst n => e.2.2.1 == 1 && decide (Int32.ofInt n = e.2.2.2.2)
  | .bipush n => e.2.2.1 == 2 && decide ((Int8.ofInt n).toInt32 = e.2.2.2.2)
  | .sipush n => e.2.2.1 == 3 && decide ((Int16.ofInt n).toInt32 = e.2.2.2.2)
  | .ldc idx => e.2.2.1 == 2 && (bif Nat.beq e.2.2.2.1.1 0 then mm_hasc (mm_mo M) idx e.2.2.2.2 else wx_r.any fun q => q.1 == mm_mo M && q.2.1 == idx && q.2.2 == e.2.2.2.1.2.1 && decide (q.2.2 < 8))
  | .ldc_w idx => e.2.2.1 == 3 && mm_hasc (mm_mo M) idx e.2.2.2.2
  | .iload _ => e.2.2.1 == 2
  | .iload_n _ => e.2.2.1 == 1
  | .aload _ => e.2.2.1 == 2
  | .aload_n _ => e.2.2.1 == 1
  | .istore i => e.2.2.1 == 2 && decide (i < NN M)
  | .istore_n i => e.2.2.1 == 1 && decide (i.val < NN M)
  | .astore i => e.2.2.1 == 2 && decide (i < NN M)
  | .astore_n i => e.2.2.1 == 1 && decide (i.val < NN M)
  | .iinc i n => e.2.2.1 == 3 && decide (i < NN M) && decide (Int32.ofInt n = e.2.2.2.2)
  | .getfield idx => e.2.2.1 == 3 && decide (e.2.2.2.1.1 < 13) && decide (e.2.2.2.1.2.1 < mm_nf e.2.2.2.1.1) && mm_ftj e.2.2.2.1.1 e.2.2.2.1.2.1 == e.2.2.2.1.2.2 && mm_hasf (mm_mo M) idx e.2.2.2.1.1 e.2.2.2.1.2.1
  | .putfield idx => e.2.2.1 == 3 && decide (e.2.2.2.1.1 < 13) && decide (e.2.2.2.1.2.1 < mm_nf e.2.2.2.1.1) && mm_hasf (mm_mo M) idx e.2.2.2.1.1 e.2.2.2.1.2.1 && (bif Nat.ble 2 e.2.2.2.1.2.2 then mm_ftj e.2.2.2.1.1 e.2.2.2.1.2.1 == e.2.2.2.1.2.2 - 1 && decide (e.2.2.2.1.2.2 ≠ 201 ∧ e.2.2.2.1.2.2 ≠ 15) else (mm_ftj e.2.2.2.1.1 e.2.2.2.1.2.1 == 0 && decide (mm_ty e.2.2.2.1.1 e.2.2.2.1.2.1 = if e.2.2.2.1.2.2 = 1 then .boolean else .int))) && (bif (mm_tf e.2.2.2.1.1 e.2.2.2.1.2.1).2.2.2 then decide ((mm_my M).name = "<init>") && mm_mo M == e.2.2.2.1.1 else true)
  | .new idx => e.2.2.1 == 3 && decide (e.2.2.2.1.1 < 13) && e.2.2.2.1.2.1 == mm_nf e.2.2.2.1.1 && mm_has3 wx_k (mm_mo M) idx e.2.2.2.1.1
  | .newarray t => e.2.2.1 == 2 && (match t with
    | .int => decide (20 ≤ e.2.2.2.1.1) && decide (e.2.2.2.1.1 < 199)
    | .boolean => decide (200 ≤ e.2.2.2.1.1) && decide (e.2.2.2.1.1 < 210)
    | .char => decide (210 ≤ e.2.2.2.1.1) && decide (e.2.2.2.1.1 < 220)
    | _ => false)
  | .anewarray idx => e.2.2.1 == 3 && decide (300 ≤ e.2.2.2.1.1) && decide (e.2.2.2.1.1 < 304) && mm_has3 wx_k (mm_mo M) idx (mm_ek e.2.2.2.1.1)
  | .invokespecial idx => e.2.2.1 == 3 && wx_o.any fun q => q.1 == mm_mo M && q.2.1 == idx
  | .invokestatic idx => e.2.2.1 == 3 && decide (e.2.2.2.1.1 < 3) && mm_has3 wx_s (mm_mo M) idx e.2.2.2.1.1
  | .invokevirtual idx => e.2.2.1 == 3 && decide (e.2.2.2.1.1 < 3) && mm_has3 wx_t (mm_mo M) idx e.2.2.2.1.1
  | _ => e.2.2.1 == 1)
