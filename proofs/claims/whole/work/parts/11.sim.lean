theorem mm_iconst {n : Int} {v : Int32} (h : Int32.ofInt n = v) : Int32.ofInt n = v := h
theorem mm_bipush {n : Int} {v : Int32} (h : (Int8.ofInt n).toInt32 = v) : (Int8.ofInt n).toInt32 = v := h
theorem mm_sipush {n : Int} {v : Int32} (h : (Int16.ofInt n).toInt32 = v) : (Int16.ofInt n).toInt32 = v := h
section SIM
variable {p : Program} {l : Launch} {e : Env} {R : Room} {s : State} {m : MethodId} {args : Array Value} {below : List Frame} {meth : Method} {c : Code} {Q : State → Prop}
variable {D : va_G} {ca : Nat → ClassId} {base b L : Nat} {xs : Nat → Int32} {sa : Nat → Nat} {M : Nat} {ad0 : Nat → Nat → Nat} {μ0 : mm_M}
variable {lo lo' : mm_L} {st st' : List mm_V} {μ μ' : mm_M} {ad : Nat → Nat → Nat} {H : Heap} {ls : Array Slot} {locs : List Loc} {cells slots : Nat}
variable {pc len : Nat} {inf : Nat × Nat × Nat} {cst : Int32}
theorem mm_rl_st (rl : mm_rl s D ca base b L xs sa M ad0 μ0 lo st μ ad H ls locs cells slots) (h : ∀ v ∈ st', mm_vd μ.1.1 v) : mm_rl s D ca base b L xs sa M ad0 μ0 lo st' μ ad H ls locs cells slots := ⟨rl.1, h, rl.2.2⟩
theorem mm_rl_tail {v : mm_V} (rl : mm_rl s D ca base b L xs sa M ad0 μ0 lo (v :: st) μ ad H ls locs cells slots) : mm_rl s D ca base b L xs sa M ad0 μ0 lo st μ ad H ls locs cells slots := mm_rl_st rl fun w hw => rl.2.1 w (List.mem_cons_of_mem _ hw)
theorem mm_rl_push {v : mm_V} (rl : mm_rl s D ca base b L xs sa M ad0 μ0 lo st μ ad H ls locs cells slots) (hv : mm_vd μ.1.1 v) : mm_rl s D ca base b L xs sa M ad0 μ0 lo (v :: st) μ ad H ls locs cells slots := mm_rl_st rl fun w hw => by
  rcases List.mem_cons.mp hw with e | e
  · rw [e]; exact hv
  · exact rl.2.1 w e
theorem mm_rl_lo {i : Nat} {v : mm_V} {ls' : Array Slot} (rl : mm_rl s D ca base b L xs sa M ad0 μ0 lo st μ ad H ls locs cells slots) (hv : mm_vd μ.1.1 v) (hl : lv_has ls' (NN M) ((i, mm_tr ad v) :: (mm_as ad 0 lo).filter (fun q => !(q.1 == i) && !(q.1 + 1 == i && q.2.category == 2)))) : mm_rl s D ca base b L xs sa M ad0 μ0 (lo.set i (some v)) st μ ad H ls' locs cells slots := by
  refine ⟨rl.1, rl.2.1, fun j w hw => ?_, mm_lv_put hl, rl.2.2.2.2⟩
  rcases mm_nth_set lo i j _ _ hw with ⟨_, e2⟩ | ⟨_, e2⟩
  · cases e2; exact hv
  · exact rl.2.2.1 j w e2

theorem sim_iconst {n : Int} (C : mm_cx p s m args meth c D ca base b L xs sa M) (hk : mm_ce M (pc, .iconst n, len, inf, cst) = true) (rl : mm_rl s D ca base b L xs sa M ad0 μ0 lo st μ ad H ls locs cells slots) (h : mm_s (pc, .iconst n, len, inf, cst) mm_fin lo st μ = some (lo', st', μ')) (kk : ∀ (ad' : Nat → Nat → Nat) (H' : Heap) (ls' : Array Slot) (locs' : List Loc) (cells' slots' : Nat), mm_rl s D ca base b L xs sa M ad0 μ0 lo' st' μ' ad' H' ls' locs' cells' slots' → W p l e R s m args below meth c H' locs' cells' slots' Q (F0 m (pc + len) ls' (st'.map (mm_tr ad')))) : W p l e R s m args below meth c H locs cells slots Q (F0 m pc ls (st.map (mm_tr ad))) := by
  obtain ⟨hx, hb, hml, hown, hts, hK, hnm, hbs, hX, hbb, hnw, hsx, hlk⟩ := id C
  simp only [mm_ce, Bool.and_eq_true, decide_eq_true_eq, beq_iff_eq] at hk
  obtain ⟨hd, rfl, hc⟩ := hk
  cases h
  exact lv_iconst hx hb hd (v := cst) (mm_iconst hc) (kk _ _ _ _ _ _ (mm_rl_push rl trivial))

theorem sim_bipush {n : Int} (C : mm_cx p s m args meth c D ca base b L xs sa M) (hk : mm_ce M (pc, .bipush n, len, inf, cst) = true) (rl : mm_rl s D ca base b L xs sa M ad0 μ0 lo st μ ad H ls locs cells slots) (h : mm_s (pc, .bipush n, len, inf, cst) mm_fin lo st μ = some (lo', st', μ')) (kk : ∀ (ad' : Nat → Nat → Nat) (H' : Heap) (ls' : Array Slot) (locs' : List Loc) (cells' slots' : Nat), mm_rl s D ca base b L xs sa M ad0 μ0 lo' st' μ' ad' H' ls' locs' cells' slots' → W p l e R s m args below meth c H' locs' cells' slots' Q (F0 m (pc + len) ls' (st'.map (mm_tr ad')))) : W p l e R s m args below meth c H locs cells slots Q (F0 m pc ls (st.map (mm_tr ad))) := by
  obtain ⟨hx, hb, hml, hown, hts, hK, hnm, hbs, hX, hbb, hnw, hsx, hlk⟩ := id C
  simp only [mm_ce, Bool.and_eq_true, decide_eq_true_eq, beq_iff_eq] at hk
  obtain ⟨hd, rfl, hc⟩ := hk
  cases h
  exact lv_bipush hx hb hd (v := cst) (mm_bipush hc) (kk _ _ _ _ _ _ (mm_rl_push rl trivial))

theorem sim_sipush {n : Int} (C : mm_cx p s m args meth c D ca base b L xs sa M) (hk : mm_ce M (pc, .sipush n, len, inf, cst) = true) (rl : mm_rl s D ca base b L xs sa M ad0 μ0 lo st μ ad H ls locs cells slots) (h : mm_s (pc, .sipush n, len, inf, cst) mm_fin lo st μ = some (lo', st', μ')) (kk : ∀ (ad' : Nat → Nat → Nat) (H' : Heap) (ls' : Array Slot) (locs' : List Loc) (cells' slots' : Nat), mm_rl s D ca base b L xs sa M ad0 μ0 lo' st' μ' ad' H' ls' locs' cells' slots' → W p l e R s m args below meth c H' locs' cells' slots' Q (F0 m (pc + len) ls' (st'.map (mm_tr ad')))) : W p l e R s m args below meth c H locs cells slots Q (F0 m pc ls (st.map (mm_tr ad))) := by
  obtain ⟨hx, hb, hml, hown, hts, hK, hnm, hbs, hX, hbb, hnw, hsx, hlk⟩ := id C
  simp only [mm_ce, Bool.and_eq_true, decide_eq_true_eq, beq_iff_eq] at hk
  obtain ⟨hd, rfl, hc⟩ := hk
  cases h
  exact lv_sipush hx hb hd (v := cst) (mm_sipush hc) (kk _ _ _ _ _ _ (mm_rl_push rl trivial))

theorem sim_iload {i : Nat} (C : mm_cx p s m args meth c D ca base b L xs sa M) (hk : mm_ce M (pc, .iload i, len, inf, cst) = true) (rl : mm_rl s D ca base b L xs sa M ad0 μ0 lo st μ ad H ls locs cells slots) (h : mm_s (pc, .iload i, len, inf, cst) mm_fin lo st μ = some (lo', st', μ')) (kk : ∀ (ad' : Nat → Nat → Nat) (H' : Heap) (ls' : Array Slot) (locs' : List Loc) (cells' slots' : Nat), mm_rl s D ca base b L xs sa M ad0 μ0 lo' st' μ' ad' H' ls' locs' cells' slots' → W p l e R s m args below meth c H' locs' cells' slots' Q (F0 m (pc + len) ls' (st'.map (mm_tr ad')))) : W p l e R s m args below meth c H locs cells slots Q (F0 m pc ls (st.map (mm_tr ad))) := by
  obtain ⟨hx, hb, hml, hown, hts, hK, hnm, hbs, hX, hbb, hnw, hsx, hlk⟩ := id C
  simp only [mm_ce, Bool.and_eq_true, decide_eq_true_eq, beq_iff_eq] at hk
  obtain ⟨hd, rfl⟩ := hk
  simp only [mm_s, mm_load] at h
  split at h
  · rename_i x hl
    cases h
    exact lv_iload hx hb hd (mm_lv_get rl.2.2.2.1 hl) (kk _ _ _ _ _ _ (mm_rl_push rl (rl.2.2.1 _ _ hl)))
  · cases h

theorem sim_iload_n {i : Fin 4} (C : mm_cx p s m args meth c D ca base b L xs sa M) (hk : mm_ce M (pc, .iload_n i, len, inf, cst) = true) (rl : mm_rl s D ca base b L xs sa M ad0 μ0 lo st μ ad H ls locs cells slots) (h : mm_s (pc, .iload_n i, len, inf, cst) mm_fin lo st μ = some (lo', st', μ')) (kk : ∀ (ad' : Nat → Nat → Nat) (H' : Heap) (ls' : Array Slot) (locs' : List Loc) (cells' slots' : Nat), mm_rl s D ca base b L xs sa M ad0 μ0 lo' st' μ' ad' H' ls' locs' cells' slots' → W p l e R s m args below meth c H' locs' cells' slots' Q (F0 m (pc + len) ls' (st'.map (mm_tr ad')))) : W p l e R s m args below meth c H locs cells slots Q (F0 m pc ls (st.map (mm_tr ad))) := by
  obtain ⟨hx, hb, hml, hown, hts, hK, hnm, hbs, hX, hbb, hnw, hsx, hlk⟩ := id C
  simp only [mm_ce, Bool.and_eq_true, decide_eq_true_eq, beq_iff_eq] at hk
  obtain ⟨hd, rfl⟩ := hk
  simp only [mm_s, mm_load] at h
  split at h
  · rename_i x hl
    cases h
    exact lv_iload_n hx hb hd rfl (mm_lv_get rl.2.2.2.1 hl) (kk _ _ _ _ _ _ (mm_rl_push rl (rl.2.2.1 _ _ hl)))
  · cases h

theorem sim_aload {i : Nat} (C : mm_cx p s m args meth c D ca base b L xs sa M) (hk : mm_ce M (pc, .aload i, len, inf, cst) = true) (rl : mm_rl s D ca base b L xs sa M ad0 μ0 lo st μ ad H ls locs cells slots) (h : mm_s (pc, .aload i, len, inf, cst) mm_fin lo st μ = some (lo', st', μ')) (kk : ∀ (ad' : Nat → Nat → Nat) (H' : Heap) (ls' : Array Slot) (locs' : List Loc) (cells' slots' : Nat), mm_rl s D ca base b L xs sa M ad0 μ0 lo' st' μ' ad' H' ls' locs' cells' slots' → W p l e R s m args below meth c H' locs' cells' slots' Q (F0 m (pc + len) ls' (st'.map (mm_tr ad')))) : W p l e R s m args below meth c H locs cells slots Q (F0 m pc ls (st.map (mm_tr ad))) := by
  obtain ⟨hx, hb, hml, hown, hts, hK, hnm, hbs, hX, hbb, hnw, hsx, hlk⟩ := id C
  simp only [mm_ce, Bool.and_eq_true, decide_eq_true_eq, beq_iff_eq] at hk
  obtain ⟨hd, rfl⟩ := hk
  simp only [mm_s, mm_loada] at h
  split at h
  · rename_i x hl
    cases h
    exact lv_aload hx hb hd (mm_lv_get rl.2.2.2.1 hl) (kk _ _ _ _ _ _ (mm_rl_push rl (rl.2.2.1 _ _ hl)))
  · cases h

theorem sim_aload_n {i : Fin 4} (C : mm_cx p s m args meth c D ca base b L xs sa M) (hk : mm_ce M (pc, .aload_n i, len, inf, cst) = true) (rl : mm_rl s D ca base b L xs sa M ad0 μ0 lo st μ ad H ls locs cells slots) (h : mm_s (pc, .aload_n i, len, inf, cst) mm_fin lo st μ = some (lo', st', μ')) (kk : ∀ (ad' : Nat → Nat → Nat) (H' : Heap) (ls' : Array Slot) (locs' : List Loc) (cells' slots' : Nat), mm_rl s D ca base b L xs sa M ad0 μ0 lo' st' μ' ad' H' ls' locs' cells' slots' → W p l e R s m args below meth c H' locs' cells' slots' Q (F0 m (pc + len) ls' (st'.map (mm_tr ad')))) : W p l e R s m args below meth c H locs cells slots Q (F0 m pc ls (st.map (mm_tr ad))) := by
  obtain ⟨hx, hb, hml, hown, hts, hK, hnm, hbs, hX, hbb, hnw, hsx, hlk⟩ := id C
  simp only [mm_ce, Bool.and_eq_true, decide_eq_true_eq, beq_iff_eq] at hk
  obtain ⟨hd, rfl⟩ := hk
  simp only [mm_s, mm_loada] at h
  split at h
  · rename_i x hl
    cases h
    exact lv_aload_n hx hb hd rfl (mm_lv_get rl.2.2.2.1 hl) (kk _ _ _ _ _ _ (mm_rl_push rl (rl.2.2.1 _ _ hl)))
  · cases h

theorem sim_istore {i : Nat} (C : mm_cx p s m args meth c D ca base b L xs sa M) (hk : mm_ce M (pc, .istore i, len, inf, cst) = true) (rl : mm_rl s D ca base b L xs sa M ad0 μ0 lo st μ ad H ls locs cells slots) (h : mm_s (pc, .istore i, len, inf, cst) mm_fin lo st μ = some (lo', st', μ')) (kk : ∀ (ad' : Nat → Nat → Nat) (H' : Heap) (ls' : Array Slot) (locs' : List Loc) (cells' slots' : Nat), mm_rl s D ca base b L xs sa M ad0 μ0 lo' st' μ' ad' H' ls' locs' cells' slots' → W p l e R s m args below meth c H' locs' cells' slots' Q (F0 m (pc + len) ls' (st'.map (mm_tr ad')))) : W p l e R s m args below meth c H locs cells slots Q (F0 m pc ls (st.map (mm_tr ad))) := by
  obtain ⟨hx, hb, hml, hown, hts, hK, hnm, hbs, hX, hbb, hnw, hsx, hlk⟩ := id C
  simp only [mm_ce, Bool.and_eq_true, decide_eq_true_eq, beq_iff_eq] at hk
  obtain ⟨hd, rfl, hi⟩ := hk
  simp only [mm_s, mm_store] at h
  split at h
  · rename_i x r
    cases h
    exact lv_istore hx hb hd rl.2.2.2.1 hi rfl (fun ls' hl => kk _ _ _ _ _ _ (mm_rl_lo (mm_rl_tail rl) (rl.2.1 _ List.mem_cons_self) hl))
  · cases h

theorem sim_istore_n {i : Fin 4} (C : mm_cx p s m args meth c D ca base b L xs sa M) (hk : mm_ce M (pc, .istore_n i, len, inf, cst) = true) (rl : mm_rl s D ca base b L xs sa M ad0 μ0 lo st μ ad H ls locs cells slots) (h : mm_s (pc, .istore_n i, len, inf, cst) mm_fin lo st μ = some (lo', st', μ')) (kk : ∀ (ad' : Nat → Nat → Nat) (H' : Heap) (ls' : Array Slot) (locs' : List Loc) (cells' slots' : Nat), mm_rl s D ca base b L xs sa M ad0 μ0 lo' st' μ' ad' H' ls' locs' cells' slots' → W p l e R s m args below meth c H' locs' cells' slots' Q (F0 m (pc + len) ls' (st'.map (mm_tr ad')))) : W p l e R s m args below meth c H locs cells slots Q (F0 m pc ls (st.map (mm_tr ad))) := by
  obtain ⟨hx, hb, hml, hown, hts, hK, hnm, hbs, hX, hbb, hnw, hsx, hlk⟩ := id C
  simp only [mm_ce, Bool.and_eq_true, decide_eq_true_eq, beq_iff_eq] at hk
  obtain ⟨hd, rfl, hi⟩ := hk
  simp only [mm_s, mm_store] at h
  split at h
  · rename_i x r
    cases h
    exact lv_istore_n hx hb hd rfl rl.2.2.2.1 hi rfl (fun ls' hl => kk _ _ _ _ _ _ (mm_rl_lo (mm_rl_tail rl) (rl.2.1 _ List.mem_cons_self) hl))
  · cases h

theorem sim_astore {i : Nat} (C : mm_cx p s m args meth c D ca base b L xs sa M) (hk : mm_ce M (pc, .astore i, len, inf, cst) = true) (rl : mm_rl s D ca base b L xs sa M ad0 μ0 lo st μ ad H ls locs cells slots) (h : mm_s (pc, .astore i, len, inf, cst) mm_fin lo st μ = some (lo', st', μ')) (kk : ∀ (ad' : Nat → Nat → Nat) (H' : Heap) (ls' : Array Slot) (locs' : List Loc) (cells' slots' : Nat), mm_rl s D ca base b L xs sa M ad0 μ0 lo' st' μ' ad' H' ls' locs' cells' slots' → W p l e R s m args below meth c H' locs' cells' slots' Q (F0 m (pc + len) ls' (st'.map (mm_tr ad')))) : W p l e R s m args below meth c H locs cells slots Q (F0 m pc ls (st.map (mm_tr ad))) := by
  obtain ⟨hx, hb, hml, hown, hts, hK, hnm, hbs, hX, hbb, hnw, hsx, hlk⟩ := id C
  simp only [mm_ce, Bool.and_eq_true, decide_eq_true_eq, beq_iff_eq] at hk
  obtain ⟨hd, rfl, hi⟩ := hk
  simp only [mm_s, mm_storea] at h
  split at h
  · rename_i x r
    cases h
    exact lv_astore hx hb hd rl.2.2.2.1 hi rfl (fun ls' hl => kk _ _ _ _ _ _ (mm_rl_lo (mm_rl_tail rl) (rl.2.1 _ List.mem_cons_self) hl))
  · cases h

theorem sim_astore_n {i : Fin 4} (C : mm_cx p s m args meth c D ca base b L xs sa M) (hk : mm_ce M (pc, .astore_n i, len, inf, cst) = true) (rl : mm_rl s D ca base b L xs sa M ad0 μ0 lo st μ ad H ls locs cells slots) (h : mm_s (pc, .astore_n i, len, inf, cst) mm_fin lo st μ = some (lo', st', μ')) (kk : ∀ (ad' : Nat → Nat → Nat) (H' : Heap) (ls' : Array Slot) (locs' : List Loc) (cells' slots' : Nat), mm_rl s D ca base b L xs sa M ad0 μ0 lo' st' μ' ad' H' ls' locs' cells' slots' → W p l e R s m args below meth c H' locs' cells' slots' Q (F0 m (pc + len) ls' (st'.map (mm_tr ad')))) : W p l e R s m args below meth c H locs cells slots Q (F0 m pc ls (st.map (mm_tr ad))) := by
  obtain ⟨hx, hb, hml, hown, hts, hK, hnm, hbs, hX, hbb, hnw, hsx, hlk⟩ := id C
  simp only [mm_ce, Bool.and_eq_true, decide_eq_true_eq, beq_iff_eq] at hk
  obtain ⟨hd, rfl, hi⟩ := hk
  simp only [mm_s, mm_storea] at h
  split at h
  · rename_i x r
    cases h
    exact lv_astore_n hx hb hd rfl rl.2.2.2.1 hi rfl (fun ls' hl => kk _ _ _ _ _ _ (mm_rl_lo (mm_rl_tail rl) (rl.2.1 _ List.mem_cons_self) hl))
  · cases h

theorem sim_iadd (C : mm_cx p s m args meth c D ca base b L xs sa M) (hk : mm_ce M (pc, .iadd, len, inf, cst) = true) (rl : mm_rl s D ca base b L xs sa M ad0 μ0 lo st μ ad H ls locs cells slots) (h : mm_s (pc, .iadd, len, inf, cst) mm_fin lo st μ = some (lo', st', μ')) (kk : ∀ (ad' : Nat → Nat → Nat) (H' : Heap) (ls' : Array Slot) (locs' : List Loc) (cells' slots' : Nat), mm_rl s D ca base b L xs sa M ad0 μ0 lo' st' μ' ad' H' ls' locs' cells' slots' → W p l e R s m args below meth c H' locs' cells' slots' Q (F0 m (pc + len) ls' (st'.map (mm_tr ad')))) : W p l e R s m args below meth c H locs cells slots Q (F0 m pc ls (st.map (mm_tr ad))) := by
  obtain ⟨hx, hb, hml, hown, hts, hK, hnm, hbs, hX, hbb, hnw, hsx, hlk⟩ := id C
  simp only [mm_ce, Bool.and_eq_true, decide_eq_true_eq, beq_iff_eq] at hk
  obtain ⟨hd, rfl⟩ := hk
  simp only [mm_s, mm_bin] at h
  split at h
  · rename_i y x r
    cases h
    exact lv_iadd hx hb hd (kk _ _ _ _ _ _ (mm_rl_push (mm_rl_tail (mm_rl_tail rl)) trivial))
  · cases h

theorem sim_isub (C : mm_cx p s m args meth c D ca base b L xs sa M) (hk : mm_ce M (pc, .isub, len, inf, cst) = true) (rl : mm_rl s D ca base b L xs sa M ad0 μ0 lo st μ ad H ls locs cells slots) (h : mm_s (pc, .isub, len, inf, cst) mm_fin lo st μ = some (lo', st', μ')) (kk : ∀ (ad' : Nat → Nat → Nat) (H' : Heap) (ls' : Array Slot) (locs' : List Loc) (cells' slots' : Nat), mm_rl s D ca base b L xs sa M ad0 μ0 lo' st' μ' ad' H' ls' locs' cells' slots' → W p l e R s m args below meth c H' locs' cells' slots' Q (F0 m (pc + len) ls' (st'.map (mm_tr ad')))) : W p l e R s m args below meth c H locs cells slots Q (F0 m pc ls (st.map (mm_tr ad))) := by
  obtain ⟨hx, hb, hml, hown, hts, hK, hnm, hbs, hX, hbb, hnw, hsx, hlk⟩ := id C
  simp only [mm_ce, Bool.and_eq_true, decide_eq_true_eq, beq_iff_eq] at hk
  obtain ⟨hd, rfl⟩ := hk
  simp only [mm_s, mm_bin] at h
  split at h
  · rename_i y x r
    cases h
    exact lv_isub hx hb hd (kk _ _ _ _ _ _ (mm_rl_push (mm_rl_tail (mm_rl_tail rl)) trivial))
  · cases h

theorem sim_imul (C : mm_cx p s m args meth c D ca base b L xs sa M) (hk : mm_ce M (pc, .imul, len, inf, cst) = true) (rl : mm_rl s D ca base b L xs sa M ad0 μ0 lo st μ ad H ls locs cells slots) (h : mm_s (pc, .imul, len, inf, cst) mm_fin lo st μ = some (lo', st', μ')) (kk : ∀ (ad' : Nat → Nat → Nat) (H' : Heap) (ls' : Array Slot) (locs' : List Loc) (cells' slots' : Nat), mm_rl s D ca base b L xs sa M ad0 μ0 lo' st' μ' ad' H' ls' locs' cells' slots' → W p l e R s m args below meth c H' locs' cells' slots' Q (F0 m (pc + len) ls' (st'.map (mm_tr ad')))) : W p l e R s m args below meth c H locs cells slots Q (F0 m pc ls (st.map (mm_tr ad))) := by
  obtain ⟨hx, hb, hml, hown, hts, hK, hnm, hbs, hX, hbb, hnw, hsx, hlk⟩ := id C
  simp only [mm_ce, Bool.and_eq_true, decide_eq_true_eq, beq_iff_eq] at hk
  obtain ⟨hd, rfl⟩ := hk
  simp only [mm_s, mm_bin] at h
  split at h
  · rename_i y x r
    cases h
    exact lv_imul hx hb hd (kk _ _ _ _ _ _ (mm_rl_push (mm_rl_tail (mm_rl_tail rl)) trivial))
  · cases h

theorem sim_iand (C : mm_cx p s m args meth c D ca base b L xs sa M) (hk : mm_ce M (pc, .iand, len, inf, cst) = true) (rl : mm_rl s D ca base b L xs sa M ad0 μ0 lo st μ ad H ls locs cells slots) (h : mm_s (pc, .iand, len, inf, cst) mm_fin lo st μ = some (lo', st', μ')) (kk : ∀ (ad' : Nat → Nat → Nat) (H' : Heap) (ls' : Array Slot) (locs' : List Loc) (cells' slots' : Nat), mm_rl s D ca base b L xs sa M ad0 μ0 lo' st' μ' ad' H' ls' locs' cells' slots' → W p l e R s m args below meth c H' locs' cells' slots' Q (F0 m (pc + len) ls' (st'.map (mm_tr ad')))) : W p l e R s m args below meth c H locs cells slots Q (F0 m pc ls (st.map (mm_tr ad))) := by
  obtain ⟨hx, hb, hml, hown, hts, hK, hnm, hbs, hX, hbb, hnw, hsx, hlk⟩ := id C
  simp only [mm_ce, Bool.and_eq_true, decide_eq_true_eq, beq_iff_eq] at hk
  obtain ⟨hd, rfl⟩ := hk
  simp only [mm_s, mm_bin] at h
  split at h
  · rename_i y x r
    cases h
    exact lv_iand hx hb hd (kk _ _ _ _ _ _ (mm_rl_push (mm_rl_tail (mm_rl_tail rl)) trivial))
  · cases h

theorem sim_ishl (C : mm_cx p s m args meth c D ca base b L xs sa M) (hk : mm_ce M (pc, .ishl, len, inf, cst) = true) (rl : mm_rl s D ca base b L xs sa M ad0 μ0 lo st μ ad H ls locs cells slots) (h : mm_s (pc, .ishl, len, inf, cst) mm_fin lo st μ = some (lo', st', μ')) (kk : ∀ (ad' : Nat → Nat → Nat) (H' : Heap) (ls' : Array Slot) (locs' : List Loc) (cells' slots' : Nat), mm_rl s D ca base b L xs sa M ad0 μ0 lo' st' μ' ad' H' ls' locs' cells' slots' → W p l e R s m args below meth c H' locs' cells' slots' Q (F0 m (pc + len) ls' (st'.map (mm_tr ad')))) : W p l e R s m args below meth c H locs cells slots Q (F0 m pc ls (st.map (mm_tr ad))) := by
  obtain ⟨hx, hb, hml, hown, hts, hK, hnm, hbs, hX, hbb, hnw, hsx, hlk⟩ := id C
  simp only [mm_ce, Bool.and_eq_true, decide_eq_true_eq, beq_iff_eq] at hk
  obtain ⟨hd, rfl⟩ := hk
  simp only [mm_s, mm_bin] at h
  split at h
  · rename_i y x r
    cases h
    exact lv_ishl hx hb hd (kk _ _ _ _ _ _ (mm_rl_push (mm_rl_tail (mm_rl_tail rl)) trivial))
  · cases h

theorem sim_ishr (C : mm_cx p s m args meth c D ca base b L xs sa M) (hk : mm_ce M (pc, .ishr, len, inf, cst) = true) (rl : mm_rl s D ca base b L xs sa M ad0 μ0 lo st μ ad H ls locs cells slots) (h : mm_s (pc, .ishr, len, inf, cst) mm_fin lo st μ = some (lo', st', μ')) (kk : ∀ (ad' : Nat → Nat → Nat) (H' : Heap) (ls' : Array Slot) (locs' : List Loc) (cells' slots' : Nat), mm_rl s D ca base b L xs sa M ad0 μ0 lo' st' μ' ad' H' ls' locs' cells' slots' → W p l e R s m args below meth c H' locs' cells' slots' Q (F0 m (pc + len) ls' (st'.map (mm_tr ad')))) : W p l e R s m args below meth c H locs cells slots Q (F0 m pc ls (st.map (mm_tr ad))) := by
  obtain ⟨hx, hb, hml, hown, hts, hK, hnm, hbs, hX, hbb, hnw, hsx, hlk⟩ := id C
  simp only [mm_ce, Bool.and_eq_true, decide_eq_true_eq, beq_iff_eq] at hk
  obtain ⟨hd, rfl⟩ := hk
  simp only [mm_s, mm_bin] at h
  split at h
  · rename_i y x r
    cases h
    exact lv_ishr hx hb hd (kk _ _ _ _ _ _ (mm_rl_push (mm_rl_tail (mm_rl_tail rl)) trivial))
  · cases h

theorem sim_iushr (C : mm_cx p s m args meth c D ca base b L xs sa M) (hk : mm_ce M (pc, .iushr, len, inf, cst) = true) (rl : mm_rl s D ca base b L xs sa M ad0 μ0 lo st μ ad H ls locs cells slots) (h : mm_s (pc, .iushr, len, inf, cst) mm_fin lo st μ = some (lo', st', μ')) (kk : ∀ (ad' : Nat → Nat → Nat) (H' : Heap) (ls' : Array Slot) (locs' : List Loc) (cells' slots' : Nat), mm_rl s D ca base b L xs sa M ad0 μ0 lo' st' μ' ad' H' ls' locs' cells' slots' → W p l e R s m args below meth c H' locs' cells' slots' Q (F0 m (pc + len) ls' (st'.map (mm_tr ad')))) : W p l e R s m args below meth c H locs cells slots Q (F0 m pc ls (st.map (mm_tr ad))) := by
  obtain ⟨hx, hb, hml, hown, hts, hK, hnm, hbs, hX, hbb, hnw, hsx, hlk⟩ := id C
  simp only [mm_ce, Bool.and_eq_true, decide_eq_true_eq, beq_iff_eq] at hk
  obtain ⟨hd, rfl⟩ := hk
  simp only [mm_s, mm_bin] at h
  split at h
  · rename_i y x r
    cases h
    exact lv_iushr hx hb hd rfl (kk _ _ _ _ _ _ (mm_rl_push (mm_rl_tail (mm_rl_tail rl)) trivial))
  · cases h

theorem sim_idiv (C : mm_cx p s m args meth c D ca base b L xs sa M) (hk : mm_ce M (pc, .idiv, len, inf, cst) = true) (rl : mm_rl s D ca base b L xs sa M ad0 μ0 lo st μ ad H ls locs cells slots) (h : mm_s (pc, .idiv, len, inf, cst) mm_fin lo st μ = some (lo', st', μ')) (kk : ∀ (ad' : Nat → Nat → Nat) (H' : Heap) (ls' : Array Slot) (locs' : List Loc) (cells' slots' : Nat), mm_rl s D ca base b L xs sa M ad0 μ0 lo' st' μ' ad' H' ls' locs' cells' slots' → W p l e R s m args below meth c H' locs' cells' slots' Q (F0 m (pc + len) ls' (st'.map (mm_tr ad')))) : W p l e R s m args below meth c H locs cells slots Q (F0 m pc ls (st.map (mm_tr ad))) := by
  obtain ⟨hx, hb, hml, hown, hts, hK, hnm, hbs, hX, hbb, hnw, hsx, hlk⟩ := id C
  simp only [mm_ce, Bool.and_eq_true, decide_eq_true_eq, beq_iff_eq] at hk
  obtain ⟨hd, rfl⟩ := hk
  simp only [mm_s] at h
  split at h
  · rename_i y x r
    split at h
    · cases h
    · rename_i hy
      cases h
      exact lv_idiv hx hb hd hy (kk _ _ _ _ _ _ (mm_rl_push (mm_rl_tail (mm_rl_tail rl)) trivial))
  · cases h

theorem sim_irem (C : mm_cx p s m args meth c D ca base b L xs sa M) (hk : mm_ce M (pc, .irem, len, inf, cst) = true) (rl : mm_rl s D ca base b L xs sa M ad0 μ0 lo st μ ad H ls locs cells slots) (h : mm_s (pc, .irem, len, inf, cst) mm_fin lo st μ = some (lo', st', μ')) (kk : ∀ (ad' : Nat → Nat → Nat) (H' : Heap) (ls' : Array Slot) (locs' : List Loc) (cells' slots' : Nat), mm_rl s D ca base b L xs sa M ad0 μ0 lo' st' μ' ad' H' ls' locs' cells' slots' → W p l e R s m args below meth c H' locs' cells' slots' Q (F0 m (pc + len) ls' (st'.map (mm_tr ad')))) : W p l e R s m args below meth c H locs cells slots Q (F0 m pc ls (st.map (mm_tr ad))) := by
  obtain ⟨hx, hb, hml, hown, hts, hK, hnm, hbs, hX, hbb, hnw, hsx, hlk⟩ := id C
  simp only [mm_ce, Bool.and_eq_true, decide_eq_true_eq, beq_iff_eq] at hk
  obtain ⟨hd, rfl⟩ := hk
  simp only [mm_s] at h
  split at h
  · rename_i y x r
    split at h
    · cases h
    · rename_i hy
      cases h
      exact lv_irem hx hb hd hy (kk _ _ _ _ _ _ (mm_rl_push (mm_rl_tail (mm_rl_tail rl)) trivial))
  · cases h

theorem sim_i2c (C : mm_cx p s m args meth c D ca base b L xs sa M) (hk : mm_ce M (pc, .i2c, len, inf, cst) = true) (rl : mm_rl s D ca base b L xs sa M ad0 μ0 lo st μ ad H ls locs cells slots) (h : mm_s (pc, .i2c, len, inf, cst) mm_fin lo st μ = some (lo', st', μ')) (kk : ∀ (ad' : Nat → Nat → Nat) (H' : Heap) (ls' : Array Slot) (locs' : List Loc) (cells' slots' : Nat), mm_rl s D ca base b L xs sa M ad0 μ0 lo' st' μ' ad' H' ls' locs' cells' slots' → W p l e R s m args below meth c H' locs' cells' slots' Q (F0 m (pc + len) ls' (st'.map (mm_tr ad')))) : W p l e R s m args below meth c H locs cells slots Q (F0 m pc ls (st.map (mm_tr ad))) := by
  obtain ⟨hx, hb, hml, hown, hts, hK, hnm, hbs, hX, hbb, hnw, hsx, hlk⟩ := id C
  simp only [mm_ce, Bool.and_eq_true, decide_eq_true_eq, beq_iff_eq] at hk
  obtain ⟨hd, rfl⟩ := hk
  simp only [mm_s] at h
  split at h
  · rename_i x r
    cases h
    exact lv_i2c hx hb hd rfl (kk _ _ _ _ _ _ (mm_rl_push (mm_rl_tail rl) trivial))
  · cases h

theorem sim_i2b (C : mm_cx p s m args meth c D ca base b L xs sa M) (hk : mm_ce M (pc, .i2b, len, inf, cst) = true) (rl : mm_rl s D ca base b L xs sa M ad0 μ0 lo st μ ad H ls locs cells slots) (h : mm_s (pc, .i2b, len, inf, cst) mm_fin lo st μ = some (lo', st', μ')) (kk : ∀ (ad' : Nat → Nat → Nat) (H' : Heap) (ls' : Array Slot) (locs' : List Loc) (cells' slots' : Nat), mm_rl s D ca base b L xs sa M ad0 μ0 lo' st' μ' ad' H' ls' locs' cells' slots' → W p l e R s m args below meth c H' locs' cells' slots' Q (F0 m (pc + len) ls' (st'.map (mm_tr ad')))) : W p l e R s m args below meth c H locs cells slots Q (F0 m pc ls (st.map (mm_tr ad))) := by
  obtain ⟨hx, hb, hml, hown, hts, hK, hnm, hbs, hX, hbb, hnw, hsx, hlk⟩ := id C
  simp only [mm_ce, Bool.and_eq_true, decide_eq_true_eq, beq_iff_eq] at hk
  obtain ⟨hd, rfl⟩ := hk
  simp only [mm_s] at h
  split at h
  · rename_i x r
    cases h
    exact lv_i2b hx hb hd rfl (kk _ _ _ _ _ _ (mm_rl_push (mm_rl_tail rl) trivial))
  · cases h

theorem sim_dup (C : mm_cx p s m args meth c D ca base b L xs sa M) (hk : mm_ce M (pc, .dup, len, inf, cst) = true) (rl : mm_rl s D ca base b L xs sa M ad0 μ0 lo st μ ad H ls locs cells slots) (h : mm_s (pc, .dup, len, inf, cst) mm_fin lo st μ = some (lo', st', μ')) (kk : ∀ (ad' : Nat → Nat → Nat) (H' : Heap) (ls' : Array Slot) (locs' : List Loc) (cells' slots' : Nat), mm_rl s D ca base b L xs sa M ad0 μ0 lo' st' μ' ad' H' ls' locs' cells' slots' → W p l e R s m args below meth c H' locs' cells' slots' Q (F0 m (pc + len) ls' (st'.map (mm_tr ad')))) : W p l e R s m args below meth c H locs cells slots Q (F0 m pc ls (st.map (mm_tr ad))) := by
  obtain ⟨hx, hb, hml, hown, hts, hK, hnm, hbs, hX, hbb, hnw, hsx, hlk⟩ := id C
  simp only [mm_ce, Bool.and_eq_true, decide_eq_true_eq, beq_iff_eq] at hk
  obtain ⟨hd, rfl⟩ := hk
  simp only [mm_s] at h
  split at h
  · rename_i a r
    cases h
    exact lv_dup hx hb hd (mm_cat ad a) (kk _ _ _ _ _ _ (mm_rl_push rl (rl.2.1 _ List.mem_cons_self)))
  · cases h

theorem sim_dup2 (C : mm_cx p s m args meth c D ca base b L xs sa M) (hk : mm_ce M (pc, .dup2, len, inf, cst) = true) (rl : mm_rl s D ca base b L xs sa M ad0 μ0 lo st μ ad H ls locs cells slots) (h : mm_s (pc, .dup2, len, inf, cst) mm_fin lo st μ = some (lo', st', μ')) (kk : ∀ (ad' : Nat → Nat → Nat) (H' : Heap) (ls' : Array Slot) (locs' : List Loc) (cells' slots' : Nat), mm_rl s D ca base b L xs sa M ad0 μ0 lo' st' μ' ad' H' ls' locs' cells' slots' → W p l e R s m args below meth c H' locs' cells' slots' Q (F0 m (pc + len) ls' (st'.map (mm_tr ad')))) : W p l e R s m args below meth c H locs cells slots Q (F0 m pc ls (st.map (mm_tr ad))) := by
  obtain ⟨hx, hb, hml, hown, hts, hK, hnm, hbs, hX, hbb, hnw, hsx, hlk⟩ := id C
  simp only [mm_ce, Bool.and_eq_true, decide_eq_true_eq, beq_iff_eq] at hk
  obtain ⟨hd, rfl⟩ := hk
  simp only [mm_s] at h
  split at h
  · rename_i a a2 r
    cases h
    exact lv_dup2_11 hx hb hd (mm_cat ad a) (mm_cat ad a2) (kk _ _ _ _ _ _ (mm_rl_push (mm_rl_push rl (rl.2.1 _ (List.mem_cons_of_mem _ List.mem_cons_self))) (rl.2.1 _ List.mem_cons_self)))
  · cases h

theorem sim_pop (C : mm_cx p s m args meth c D ca base b L xs sa M) (hk : mm_ce M (pc, .pop, len, inf, cst) = true) (rl : mm_rl s D ca base b L xs sa M ad0 μ0 lo st μ ad H ls locs cells slots) (h : mm_s (pc, .pop, len, inf, cst) mm_fin lo st μ = some (lo', st', μ')) (kk : ∀ (ad' : Nat → Nat → Nat) (H' : Heap) (ls' : Array Slot) (locs' : List Loc) (cells' slots' : Nat), mm_rl s D ca base b L xs sa M ad0 μ0 lo' st' μ' ad' H' ls' locs' cells' slots' → W p l e R s m args below meth c H' locs' cells' slots' Q (F0 m (pc + len) ls' (st'.map (mm_tr ad')))) : W p l e R s m args below meth c H locs cells slots Q (F0 m pc ls (st.map (mm_tr ad))) := by
  obtain ⟨hx, hb, hml, hown, hts, hK, hnm, hbs, hX, hbb, hnw, hsx, hlk⟩ := id C
  simp only [mm_ce, Bool.and_eq_true, decide_eq_true_eq, beq_iff_eq] at hk
  obtain ⟨hd, rfl⟩ := hk
  simp only [mm_s] at h
  split at h
  · rename_i a r
    cases h
    exact lv_pop hx hb hd (mm_cat ad a) (kk _ _ _ _ _ _ (mm_rl_tail rl))
  · cases h

theorem sim_iinc {i : Nat} {n : Int} (C : mm_cx p s m args meth c D ca base b L xs sa M) (hk : mm_ce M (pc, .iinc i n, len, inf, cst) = true) (rl : mm_rl s D ca base b L xs sa M ad0 μ0 lo st μ ad H ls locs cells slots) (h : mm_s (pc, .iinc i n, len, inf, cst) mm_fin lo st μ = some (lo', st', μ')) (kk : ∀ (ad' : Nat → Nat → Nat) (H' : Heap) (ls' : Array Slot) (locs' : List Loc) (cells' slots' : Nat), mm_rl s D ca base b L xs sa M ad0 μ0 lo' st' μ' ad' H' ls' locs' cells' slots' → W p l e R s m args below meth c H' locs' cells' slots' Q (F0 m (pc + len) ls' (st'.map (mm_tr ad')))) : W p l e R s m args below meth c H locs cells slots Q (F0 m pc ls (st.map (mm_tr ad))) := by
  obtain ⟨hx, hb, hml, hown, hts, hK, hnm, hbs, hX, hbb, hnw, hsx, hlk⟩ := id C
  simp only [mm_ce, Bool.and_eq_true, decide_eq_true_eq, beq_iff_eq] at hk
  obtain ⟨hd, ⟨rfl, hi⟩, hc⟩ := hk
  simp only [mm_s] at h
  split at h
  · rename_i x hl
    cases h
    obtain ⟨k, hk2⟩ := List.getElem?_of_mem (mm_as_mem.mpr ⟨i, .inl x, hl, rfl⟩ : (0 + i, mm_tr ad (.inl x)) ∈ mm_as ad 0 lo)
    rw [Nat.zero_add] at hk2
    exact lv_iinc hx hb hd rl.2.2.2.1 hk2 (v := x + cst) (by rw [hc]) hi rfl (fun ls' hl => kk _ _ _ _ _ _ (mm_rl_lo rl (v := .inl (x + cst)) trivial hl))
  · cases h

theorem sim_ldc {idx : Nat} (C : mm_cx p s m args meth c D ca base b L xs sa M) (hk : mm_ce M (pc, .ldc idx, len, inf, cst) = true) (rl : mm_rl s D ca base b L xs sa M ad0 μ0 lo st μ ad H ls locs cells slots) (h : mm_s (pc, .ldc idx, len, inf, cst) mm_fin lo st μ = some (lo', st', μ')) (kk : ∀ (ad' : Nat → Nat → Nat) (H' : Heap) (ls' : Array Slot) (locs' : List Loc) (cells' slots' : Nat), mm_rl s D ca base b L xs sa M ad0 μ0 lo' st' μ' ad' H' ls' locs' cells' slots' → W p l e R s m args below meth c H' locs' cells' slots' Q (F0 m (pc + len) ls' (st'.map (mm_tr ad')))) : W p l e R s m args below meth c H locs cells slots Q (F0 m pc ls (st.map (mm_tr ad))) := by
  obtain ⟨hx, hb, hml, hown, hts, hK, hnm, hbs, hX, hbb, hnw, hsx, hlk⟩ := id C
  simp only [mm_ce, Bool.and_eq_true, decide_eq_true_eq, beq_iff_eq] at hk
  obtain ⟨hd, rfl, hw⟩ := hk
  simp only [mm_s] at h
  cases hz : Nat.beq inf.1 0 with
  | true =>
    rw [hz] at h hw
    cases h
    exact lv_ldc hx hb hown (hts _ (mm_hasc_ok hw)) hd (kk _ _ _ _ _ _ (mm_rl_push rl trivial))
  | false =>
    rw [hz] at h hw
    cases h
    obtain ⟨q, hq, h1⟩ := List.any_eq_true.mp hw
    simp only [Bool.and_eq_true, beq_iff_eq, decide_eq_true_eq] at h1
    obtain ⟨⟨⟨e1, e2⟩, e3⟩, e4⟩ := h1
    obtain ⟨al, -, -, -, -, -, -, -, h13, -, -⟩ := rl.1
    have hv := hsx.1 q hq
    rw [e1, e2] at hv
    have e5 : sa q.2.2 = ad 13 inf.2.1 := by rw [e3] at e4 ⊢; exact (h13 _ e4).symm
    rw [e5] at hv
    exact va_ldcS hx hb hown hv hd (kk _ _ _ _ _ _ (mm_rl_push rl (v := .inr (13, inf.2.1)) (Or.inr (Or.inr ⟨rfl, by rw [← e3]; exact e4⟩))))

theorem sim_ldc_w {idx : Nat} (C : mm_cx p s m args meth c D ca base b L xs sa M) (hk : mm_ce M (pc, .ldc_w idx, len, inf, cst) = true) (rl : mm_rl s D ca base b L xs sa M ad0 μ0 lo st μ ad H ls locs cells slots) (h : mm_s (pc, .ldc_w idx, len, inf, cst) mm_fin lo st μ = some (lo', st', μ')) (kk : ∀ (ad' : Nat → Nat → Nat) (H' : Heap) (ls' : Array Slot) (locs' : List Loc) (cells' slots' : Nat), mm_rl s D ca base b L xs sa M ad0 μ0 lo' st' μ' ad' H' ls' locs' cells' slots' → W p l e R s m args below meth c H' locs' cells' slots' Q (F0 m (pc + len) ls' (st'.map (mm_tr ad')))) : W p l e R s m args below meth c H locs cells slots Q (F0 m pc ls (st.map (mm_tr ad))) := by
  obtain ⟨hx, hb, hml, hown, hts, hK, hnm, hbs, hX, hbb, hnw, hsx, hlk⟩ := id C
  simp only [mm_ce, Bool.and_eq_true, decide_eq_true_eq, beq_iff_eq] at hk
  obtain ⟨hd, rfl, hw⟩ := hk
  cases h
  exact lv_ldcw hx hb hown (hts _ (mm_hasc_ok hw)) hd (kk _ _ _ _ _ _ (mm_rl_push rl trivial))

end SIM
