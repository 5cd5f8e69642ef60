/-! The law's first two blocks. -/
theorem cz_7 : (match cz_h with | some q => q.1.isNone && (Nat.blt q.2.1.2.2.2.1 233 && Nat.beq (q.2.1.1 12) 0) | none => false) = true := by decide +kernel
theorem cz_8 : (match cz_r with | some q => q.1.isNone | none => false) = true := by decide +kernel
section BLK
variable {p : Program} {l : Launch} {e : Env} {R : Room} {s : State} {m : MethodId} {args : Array Value} {below : List Frame} {meth : Method} {c : Code} {Q : State → Prop}
variable {D : va_G} {ca : Nat → ClassId} {base b L : Nat} {xs : Nat → Int32} {sa : Nat → Nat} {M : Nat} {ad0 : Nat → Nat → Nat} {μ0 : mm_M}
variable {lo lo' : mm_L} {st st' : List mm_V} {μ μ' : mm_M} {ad : Nat → Nat → Nat} {H : Heap} {ls : Array Slot} {locs : List Loc} {cells slots : Nat} {d k kz : Nat}
/-- a block that ends with the call of a constructor -/
theorem mm_blkI (hZ : mm_Str) (hch : mm_cb M (PP M k).1 (PP M k).2 = true ∧ mm_npc0 (PP M k) = mm_npc M (PP M k).1 (PP M k).2) (IH : ∀ (M : Nat) (as : List mm_V) (μ : mm_M) (r : mm_R), M < 246 → mm_S PP NN d M as μ = some r → mm_Met l d M as μ r) (C : mm_cx p s m args meth c D ca base b L xs sa M) (hRf : d + 9 ≤ R.frames) (hRl : 100 * d + 500 ≤ R.locals) {pc0 idx0 len0 s00 s10 : Nat} {inf0 : Nat × Nat × Nat} {cs0 : List (Int32 × Nat)} (ht2 : (PP M k).2 = .inr (pc0, .invokespecial idx0, len0, (s00, s10), inf0, cs0)) (hbz : mm_b (mm_S PP NN d) mm_br mm_bk ((PP M k).1, (PP M k).2) lo st μ = some (.inr (kz, lo', st', μ'))) (hz1 : μ'.1.2.2.2.1 ≤ μ0.1.2.2.2.1 + R.cells) (hz2 : μ'.1.2.2.2.2 ≤ μ0.1.2.2.2.2 + R.slots)
    (kk : ∀ (ad' : Nat → Nat → Nat) (H' : Heap) (ls' : Array Slot) (locs' : List Loc) (cells' slots' : Nat), mm_rl s D ca base b L xs sa M ad0 μ0 lo' st' μ' ad' H' ls' locs' cells' slots' → W p l e R s m args below meth c H' locs' cells' slots' Q (F0 m (mm_npc0 (PP M kz)) ls' (st'.map (mm_tr ad')))) (rl : mm_rl s D ca base b L xs sa M ad0 μ0 lo st μ ad H ls locs cells slots) : W p l e R s m args below meth c H locs cells slots Q (F0 m (mm_npc0 (PP M k)) ls (st.map (mm_tr ad))) := by
  have hf8 : 8 ≤ R.frames := Nat.le_trans (by omega) hRf
  have hl4 : 400 ≤ R.locals := Nat.le_trans (Nat.le_trans (by decide) (Nat.le_add_left 500 (100 * d))) hRl
  rw [hch.2]
  refine mm_simb (z := .inr (kz, lo', st', μ')) (μ0 := μ0) hZ C hf8 hl4 (S := mm_S PP NN d) (mm_S_le d) hz1 hz2 ?_ (PP M k).1 lo st μ ad H ls locs cells slots hbz hch.1 rl
  intro lo1 st1 μ1 ad1 H1 ls1 locs1 cells1 slots1 ht hk rl1
  generalize (PP M k).2 = t at ht hk ht2 ⊢
  subst ht2
  have hk : mm_ct M (pc0, .invokespecial idx0, len0, (s00, s10), inf0, cs0) = true := hk
  show W p l e R s m args below meth c H1 locs1 cells1 slots1 Q (F0 m pc0 ls1 (st1.map (mm_tr ad1)))
  exact sic_special IH C hRf hRl hk rl1 ht hz1 hz2 (fun ad' H' locs' cells' slots' rl' => kk ad' H' ls1 locs' cells' slots' rl')
end BLK
theorem L_b0 (d : Nat) (v1 v2 v3 : Option mm_V) (μ : mm_M) (r : mm_M) (h0 : μ.1.2.2.2.1 < 233) (h1 : μ.1.1 11 = 0) (h : mm_S PP NN d q_H_init [.inr (11, 0)] (mm_newk μ 11 0 17) = some (none, r)) : mm_b (mm_S PP NN d) mm_br mm_bk ((PP 246 0).1, (PP 246 0).2) [some (.inr (199, 0)), v1, v2, v3] [] μ = some (.inr (1, [some (.inr (199, 0)), v1, v2, v3], [.inr (11, 0)], r)) := by
  have e : PP 246 0 = b_L_law_0 := rfl
  rw [e]
  show (if μ.1.2.2.2.1 < 233 then _ else none) = _
  rw [if_pos h0, h1]
  show (mm_S PP NN d q_H_init [.inr (11, 0)] (mm_newk μ 11 0 17)).bind _ = _
  rw [h]
  rfl
theorem L_b1 (d : Nat) (v1 v2 v3 : Option mm_V) (μ : mm_M) (r : mm_M) (h0 : μ.1.2.2.2.1 < 233) (h1 : μ.1.1 12 = 0) (h : mm_S PP NN d q_M_init [.inr (12, 0)] (mm_newk μ 12 0 50) = some (none, r)) : mm_b (mm_S PP NN d) mm_br mm_bk ((PP 246 1).1, (PP 246 1).2) [some (.inr (199, 0)), v1, v2, v3] [.inr (11, 0)] μ = some (.inr (2, [some (.inr (199, 0)), some (.inr (11, 0)), v2, v3], [.inr (12, 0)], r)) := by
  have e : PP 246 1 = b_L_law_1 := rfl
  rw [e]
  show (if μ.1.2.2.2.1 < 233 then _ else none) = _
  rw [if_pos h0, h1]
  show (mm_S PP NN d q_M_init [.inr (12, 0)] (mm_newk μ 12 0 50)).bind _ = _
  rw [h]
  rfl
/-- where the String constants stand in the class's pool -/
def sxI (i : Nat) : Nat := mm_at 0 [71, 73, 75, 77, 79, 81, 83, 85] i
def sxT (i : Nat) : Term := .string "HillPaths$Reader" (sxI i)
def sxF : List Cond := flatC (Jvm.Cond.and given_1 narrow_1)
theorem sx_1 : ∀ i, i < 8 → Cond.exactly (sxT i) "java/lang/String" ∈ sxF := by decide +kernel
theorem sx_2 : ∀ i, i < 8 → Cond.eq (.field (sxT i) "java/lang/String" "coder" "B") (.int 0) ∈ sxF := by decide +kernel
theorem sx_3 : ∀ i, i < 8 → Cond.arrayOf (.field (sxT i) "java/lang/String" "value" "[B") .byte ∈ sxF := by decide +kernel
theorem sx_4 : ∀ i, i < 8 → Cond.eq (.length (.field (sxT i) "java/lang/String" "value" "[B")) (.int (Int32.ofNat (([5, 4, 5, 4, 3, 3, 3, 3] : List Nat).getD i 0))) ∈ sxF := by decide +kernel
theorem sx_5 : ∀ i, i < 8 → ∀ j, j < ([5, 4, 5, 4, 3, 3, 3, 3] : List Nat).getD i 0 → Cond.eq (.elem (.field (sxT i) "java/lang/String" "value" "[B") (.int (Int32.ofNat j))) (.int ((mm_st.getD i []).getD j 0)) ∈ sxF := by decide +kernel
theorem sx_6 : ∀ i, i < 8 → ∀ j, j < 8 → i ≠ j → Cond.not (Cond.eq (sxT i) (sxT j)) ∈ sxF ∨ Cond.not (Cond.eq (sxT j) (sxT i)) ∈ sxF := by decide +kernel
theorem sx_7 : Cond.eq (.static "java/lang/String" "COMPACT_STRINGS" "Z") (.int 1) ∈ sxF := by decide +kernel
theorem sx_8 : Cond.isRef (.static "jdk/internal/util/Preconditions" "SIOOBE_FORMATTER" "Ljava/util/function/BiFunction;") ∈ sxF := by decide +kernel
theorem sx_r : ∀ q ∈ wx_r, mm_cs q.1 = "HillPaths$Reader" ∧ q.2.1 = sxI q.2.2 ∧ q.2.2 < 8 ∧ Cond.stringRef (mm_cs q.1) q.2.1 (mm_at "" mm_tx q.2.2) ∈ tables_1 := by
  have : (wx_r.all fun q => decide (mm_cs q.1 = "HillPaths$Reader") && decide (q.2.1 = sxI q.2.2) && decide (q.2.2 < 8) && decide (tables_1[mm_at 0 [713, 714, 715, 716, 812, 813, 814, 815] q.2.2]? = some (Cond.stringRef (mm_cs q.1) q.2.1 (mm_at "" mm_tx q.2.2)))) = true := by decide +kernel
  intro q hq
  have h := List.all_eq_true.mp this q hq
  simp only [Bool.and_eq_true, decide_eq_true_eq] at h
  exact ⟨h.1.1.1, h.1.1.2, h.1.2, List.mem_of_getElem? h.2⟩
theorem lw_in {w : Cond} (h : w ∈ tables_1) : w ∈ lw_tbl := List.mem_append_right _ h
theorem big_in {w : Cond} (h : w ∈ mm_big) : w ∈ lw_tbl := (List.mem_filter.mp h).1
/-- the Strings at the law's entry -/
theorem sx_at {s : State} {b : Nat} (hts : ∀ w ∈ lw_tbl, w.before #[Value.ref b] s = true) (hgv : (Jvm.Cond.and given_1 narrow_1).before #[Value.ref b] s = true) : ∃ sa : Nat → Nat, mm_sx s.heap.size sa s := by
  have hs := flat_of_before _ hgv
  have hA : ∀ a : Nat, a < s.heap.size → ¬ (fun q : Nat => s.heap.size ≤ q) a := fun a ha => Nat.not_le.mpr ha
  obtain ⟨sa, sv, h1, h2⟩ := vk_Sof (args := #[Value.ref b]) (s := s) (N := 8) (tm := sxT) (len := [5, 4, 5, 4, 3, 3, 3, 3]) (byt := mm_st) (A := fun q : Nat => s.heap.size ≤ q) (by decide) (fun i hi => hs _ (sx_1 i hi)) (fun i hi => hs _ (sx_2 i hi)) (fun i hi => hs _ (sx_3 i hi)) (fun i hi => hs _ (sx_4 i hi)) (fun i hi j hj => hs _ (sx_5 i hi j hj)) (fun i j hi hj hne => (sx_6 i hi j hj hne).imp (hs _) (hs _)) hA
  refine ⟨sa, fun q hq => ?_, ⟨sv, h1⟩, va_Zof (hts _ (lw_in (mm_mem_tab (n := 730) (by decide +kernel)))) (hts _ (big_in jx_s_i)) (va_eqi (hs _ sx_7)) hA, va_Zqof (hts _ (lw_in (mm_mem_tab (n := 746) (by decide +kernel)))) (hts _ (big_in jx_p_i)) (hs _ sx_8) hA⟩
  obtain ⟨r1, r2, r3, r4⟩ := sx_r q hq
  have e := h2 q.2.2 r3
  unfold sxT at e
  rw [← r2, ← r1] at e
  exact vk_R.of (hts _ (lw_in r4)) e
theorem ar_p {s : State} {args : Array Value} {ty : FieldType} (h : (Cond.arrayClass ty).before args s = true) : ∃ c : ClassId, ArrOfT s c ty ∧ s.vm.findClass ("[" ++ ty.toString) = some c := by
  obtain ⟨c, k, comp, h1, h2, h3⟩ := Cond.arrayClass_spec h
  exact ⟨c, fun n z => ⟨fun k h => (by cases h), k, h2, comp, h3⟩, h1⟩
theorem ar_o {s : State} {args : Array Value} {C : String} (h : (Cond.arrayOver (.object C)).before args s = true) : ∃ c : ClassId, ArrOfT s c (.object C) ∧ va_RA s c (.object C) := by
  obtain ⟨comp, c, k, h1, h2, h3, h4, h5⟩ := Cond.arrayOver_spec h
  exact ⟨c, fun n z => ⟨fun k h => (by cases h), k, h3, comp, h4⟩, k, comp, h3, h4, h1, h5⟩
theorem ao_1 : Cond.arrayOver (.object "HillPaths$Stretch") ∈ tables_1 := mm_mem_tab (n := 36) (by decide +kernel)
theorem ao_2 : Cond.arrayOver (.object "HillPaths$Text") ∈ tables_1 := mm_mem_tab (n := 244) (by decide +kernel)
theorem ao_3 : Cond.arrayOver (.object "HillPaths$Counter") ∈ tables_1 := mm_mem_tab (n := 342) (by decide +kernel)
theorem ao_4 : Cond.arrayOver (.object "HillPaths$Hut") ∈ tables_1 := mm_mem_tab (n := 344) (by decide +kernel)
/-- the classes and array classes at the law's entry -/
theorem K_at {s : State} {b : Nat} (hts : ∀ w ∈ lw_tbl, w.before #[Value.ref b] s = true) : ∃ (D : va_G) (ca : Nat → ClassId), va_K D mm_cl (mm_tys ca) s := by
  have hk : ∀ k : Nat, ∃ q : ClassId × (Nat → Nat), k < 13 → u_Kn s (mm_cs k) (mm_tf k) (mm_nf k) q.1 q.2 := by
    intro k
    by_cases h : k < 13
    · obtain ⟨c, iS, h1⟩ := u_known (C := mm_cs k) (T := mm_tf k) (N := mm_nf k) (n := mm_nf k) hts (fun w hw => big_in (mm_cl_ws h w hw)) (hts _ (big_in (mm_wb h)))
      exact ⟨(c, iS), fun _ => h1⟩
    · exact ⟨(0, fun _ => 0), fun z => absurd z h⟩
  obtain ⟨f, hf⟩ : ∃ f : Nat → ClassId × (Nat → Nat), ∀ k, k < 13 → u_Kn s (mm_cs k) (mm_tf k) (mm_nf k) (f k).1 (f k).2 := ⟨fun k => Classical.choose (hk k), fun k => Classical.choose_spec (hk k)⟩
  obtain ⟨c0, a0, b0⟩ := ar_p (hts _ (big_in mm_wa1))
  obtain ⟨c1, a1, b1⟩ := ar_p (hts _ (big_in mm_wa2))
  obtain ⟨c2, a2, b2'⟩ := ar_p (hts _ (big_in mm_wa3))
  obtain ⟨c3, a3, b3⟩ := ar_o (hts _ (lw_in ao_1))
  obtain ⟨c4, a4, b4⟩ := ar_o (hts _ (lw_in ao_2))
  obtain ⟨c5, a5, b5⟩ := ar_o (hts _ (lw_in ao_3))
  obtain ⟨c6, a6, b6⟩ := ar_o (hts _ (lw_in ao_4))
  refine ⟨(fun k => (f k).1, fun k => (f k).2), fun j => if j = 0 then c0 else if j = 1 then c1 else if j = 2 then c2 else if j = 3 then c3 else if j = 4 then c4 else if j = 5 then c5 else c6, fun k q hq => ?_, fun k q hq => ?_⟩
  · have hk13 : k < 13 := by
      have := (List.getElem?_eq_some_iff.mp hq).1
      have hl : mm_cl.length = 13 := by decide
      omega
    rw [mm_cl_at hk13] at hq
    cases hq
    exact hf k hk13
  · match k, hq with
    | 0, hq => cases hq; exact ⟨a0, b0⟩
    | 1, hq => cases hq; exact ⟨a1, b1⟩
    | 2, hq => cases hq; exact ⟨a2, b2'⟩
    | 3, hq => cases hq; exact ⟨a3, b3⟩
    | 4, hq => cases hq; exact ⟨a4, b4⟩
    | 5, hq => cases hq; exact ⟨a5, b5⟩
    | 6, hq => cases hq; exact ⟨a6, b6⟩
    | k + 7, hq => simp [mm_tys] at hq
theorem nw_at {s : State} {b : Nat} (hts : ∀ w ∈ lw_tbl, w.before #[Value.ref b] s = true) : mm_nw s := ⟨fun q hq => va_Nw.of rfl (hts _ (lw_in (mm_mem_tab (mm_all wx_n_ok hq)))), va_AO.of (hts _ (lw_in ao_1)), va_AO.of (hts _ (lw_in ao_2)), va_AO.of (hts _ (lw_in ao_3)), va_AO.of (hts _ (lw_in ao_4))⟩
