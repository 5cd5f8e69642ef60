def mm_rm (d mc ms : Nat) : Room := { frames := d + 8, cells := mc, slots := ms, locals := 100 * d + 400 }
def mm_wM (M : Nat) : List Cond := mm_cw (mm_q M) :: mm_big
def mm_Sta (D : va_G) (ca : Nat → ClassId) (base b L : Nat) (xs : Nat → Int32) (sa : Nat → Nat) (U : State) : Prop := va_K D mm_cl (mm_tys ca) U ∧ base ≤ U.heap.size ∧ va_X b L xs U U.heap ∧ b < base ∧ mm_nw U ∧ mm_sx base sa U
def mm_Pc (D : va_G) (ca : Nat → ClassId) (base b L : Nat) (xs : Nat → Int32) (sa : Nat → Nat) (ad : Nat → Nat → Nat) (μ : mm_M) (as : List mm_V) : Array Value → State → Prop := va_Pc (as.map (mm_tr ad)) (fun U => mm_hp D ca base b L xs sa ad μ U.heap ∧ mm_Sta D ca base b L xs sa U)
def mm_Qc (D : va_G) (ca : Nat → ClassId) (base b L : Nat) (xs : Nat → Int32) (sa : Nat → Nat) (ad : Nat → Nat → Nat) (μ : mm_M) (r : mm_R) : Array Value → State → Outcome → State → Prop := fun _ st oc t => (∃ ad' : Nat → Nat → Nat, oc = .returned (r.1.map (mm_tr ad')) ∧ mm_hp D ca base b L xs sa ad' r.2 t.heap ∧ (∀ k i, i < μ.1.1 k → ad' k i = ad k i) ∧ (∀ k, μ.1.1 k ≤ r.2.1.1 k) ∧ (∀ v, r.1 = some v → mm_vd r.2.1.1 v)) ∧ va_F (fun q => base ≤ q) st t
/-- the contract of method M for one answer of the machine -/
def mm_Met (l : Launch) (d M : Nat) (as : List mm_V) (μ : mm_M) (r : mm_R) : Prop := ∀ (D : va_G) (ca : Nat → ClassId) (base b L : Nat) (xs : Nat → Int32) (sa : Nat → Nat) (ad : Nat → Nat → Nat), (∀ v ∈ as, mm_vd μ.1.1 v) → as.length ≤ NN M → Met l (mm_my M) (mm_wM M) (mm_rm d (r.2.1.2.2.2.1 - μ.1.2.2.2.1) (r.2.1.2.2.2.2 - μ.1.2.2.2.2)) (mm_Pc D ca base b L xs sa ad μ as) (mm_Qc D ca base b L xs sa ad μ r) (r.2.1.2.2.2.1 - μ.1.2.2.2.1) (r.2.1.2.2.2.2 - μ.1.2.2.2.2) (fun q => base ≤ q)
theorem mm_blind {D : va_G} {ca : Nat → ClassId} {base b L : Nat} {xs : Nat → Int32} {sa : Nat → Nat} {ad : Nat → Nat → Nat} {μ : mm_M} {as : List mm_V} : FrameBlind (mm_Pc D ca base b L xs sa ad μ as) := by
  intro a U g mk h
  obtain ⟨h1, h2, h3, h4, h5, h6, h7, h8⟩ := h
  refine ⟨h1, h2, va_K.moved (u := U) (U := U.calling g mk a) (Vm.Alike.refl U.vm) h3, h4, va_X.moved (u := U) (U := U.calling g mk a) (Vm.Alike.refl U.vm) h5, h6, ⟨fun q hq => va_Nw.same rfl rfl (h7.1 q hq), ?_, ?_, ?_, ?_⟩, ⟨fun q hq => vk_R.same rfl (h8.1 q hq), mm_ss_mv (u := U) (U := U.calling g mk a) (Vm.Alike.refl U.vm) h8.2⟩⟩
  · exact va_AO.moved (u := U) (U := U.calling g mk a) (Vm.Alike.refl U.vm) h7.2.1
  · exact va_AO.moved (u := U) (U := U.calling g mk a) (Vm.Alike.refl U.vm) h7.2.2.1
  · exact va_AO.moved (u := U) (U := U.calling g mk a) (Vm.Alike.refl U.vm) h7.2.2.2.1
  · exact va_AO.moved (u := U) (U := U.calling g mk a) (Vm.Alike.refl U.vm) h7.2.2.2.2
theorem mm_at_mem {α : Type} {x : α} : ∀ {l : List α} {n : Nat}, n < l.length → mm_at x l n ∈ l
  | a :: l, 0, _ => List.mem_cons_self
  | a :: l, n + 1, h => List.mem_cons_of_mem _ (mm_at_mem (by simpa using h))
theorem mm_q_len : mm_qt.length = 247 := by decide +kernel
theorem mm_q_in {M : Nat} (h : M < 247) : mm_q M ∈ mm_qt := mm_at_mem (by rw [mm_q_len]; exact h)
theorem mm_law_no : ((List.range 13).all fun k => decide (mm_cs k ≠ "HillPathsLaw")) = true := by decide +kernel
theorem mm_wd {M : Nat} (h : M < 246) : (mm_my M).cls = mm_cs (mm_mo M) ∧ mm_mo M < 13 ∧ plainName (mm_my M).cls = true ∧ (mm_my M).cls ≠ "java/lang/invoke/MethodHandle" ∧ (mm_my M).cls ≠ "java/lang/invoke/VarHandle" := by
  have h1 := wy_d_ok h
  unfold wy_d at h1
  simp only [Bool.and_eq_true, decide_eq_true_eq] at h1
  exact ⟨h1.1.1.1, h1.1.1.2, h1.1.2, h1.2⟩
theorem mm_wcode {M : Nat} (h : M < 246) : mm_cw (mm_q M) ∈ mm_big := by
  rcases wx_q _ (mm_q_in (show M < 247 by omega)) with h1 | h1
  · exact mm_big_of h1 rfl
  · exfalso
    obtain ⟨e1, e2, -⟩ := mm_wd h
    have e3 : (mm_my M).cls = "HillPathsLaw" := by unfold mm_my; rw [h1]
    exact of_decide_eq_true (mm_all mm_law_no (List.mem_range.mpr e2)) (e1.symm.trans e3)
theorem mm_goodM {M : Nat} (h : M < 246) : GoodIn mm_big (mm_wM M) := by
  intro w hw
  rcases List.mem_cons.mp hw with e | e
  · rw [e]; exact ⟨mm_wcode h, good_of_word rfl⟩
  · exact ⟨e, good_of_word (List.mem_filter.mp e).2⟩
theorem mm_wya {M : Nat} (h : M < 246) : (mm_q M).2.2.1 = NN M ∧ NN M ≤ 30 ∧ (bif Nat.beq (mm_mw M).2.2.2.2 1 then Cond.static (mm_my M) else Cond.instanceMethod (mm_my M)) ∈ mm_big := by
  have h1 := wy_a_ok h
  unfold wy_a at h1
  simp only [Bool.and_eq_true, decide_eq_true_eq] at h1
  refine ⟨mm_beq h1.1.1, h1.1.2, mm_big_of (List.mem_of_getElem? h1.2) ?_⟩
  cases Nat.beq (mm_mw M).2.2.2.2 1 <;> rfl
theorem mm_wyc {M : Nat} (h : M < 246) : (parseMethodDescriptor (mm_my M).desc).map (fun d => d.parameters.length) = some (mm_mw M).2.2.2.1 ∧ (mm_mw M).2.2.2.1 + 1 ≤ NN M + (mm_mw M).2.2.2.2 := by
  have h1 := wy_c_ok h
  unfold wy_c at h1
  simp only [Bool.and_eq_true, decide_eq_true_eq] at h1
  exact h1
theorem mm_wyb {M : Nat} (h : M < 246) (hs : (mm_mw M).2.2.2.2 = 0) (hn : (mm_my M).name ≠ "<init>") : Cond.selects (mm_my M).cls (mm_my M) (mm_my M) ∈ mm_big := by
  have h1 := wy_b_ok h
  unfold wy_b at h1
  simp only [Bool.or_eq_true, decide_eq_true_eq] at h1
  rcases h1 with (h1 | h1) | h1
  · rw [hs] at h1; cases h1
  · exact absurd h1 hn
  · exact List.mem_filter.mpr ⟨List.mem_of_getElem? h1, rfl⟩

section SIR
variable {p : Program} {l : Launch} {e : Env} {R : Room} {s : State} {m : MethodId} {args : Array Value} {below : List Frame} {meth : Method} {c : Code} {Q : State → Prop}
variable {D : va_G} {ca : Nat → ClassId} {base b L : Nat} {xs : Nat → Int32} {sa : Nat → Nat} {M : Nat} {ad0 : Nat → Nat → Nat} {μ0 : mm_M}
variable {lo lo' : mm_L} {st st' : List mm_V} {μ μ' : mm_M} {ad : Nat → Nat → Nat} {H : Heap} {ls : Array Slot} {locs : List Loc} {cells slots : Nat}
variable {pc len : Nat} {inf : Nat × Nat × Nat} {cst : Int32}
variable {r : mm_R} {s0 s1 d : Nat} {cs : List (Int32 × Nat)}

theorem W.zretN {cc : ByteArray} {H : Heap} {Qc : Array Value → State → Outcome → State → Prop} {free : Addr → Prop} {v : Int32} (hexec : p.tables.exec = Jvm.exec) (hb : c.code = cc) (hr : meth.sig.returnType = some .boolean)
    (hq : ∀ t : State, t.heap = H → s.WarmedH t.vm → Qc args s (.returned (some (.int (v &&& 1)))) t) (hf : ∀ q ∈ locs, free q.base)
    {pc : Nat} {ls : Array Slot} (hdg : decode cc pc = .ok (.ireturn, 1)) (hlocks : meth.locks = false) : W p l e R s m args below meth c H locs cells slots (MQ below Qc args s cells slots free) (F0 m pc ls [.int v]) := by
  intro T hT X
  obtain ⟨fs, hret, hrun, hended, hW, hframe⟩ := X.leave (v := some (.int (v &&& 1))) (fun h => by rw [hr] at h; cases h)
  have hmeth' : T.vm.method? m = some meth := X.method'
  refine ⟨T.setFrames fs, ?_, .returned (some (.int (v &&& 1))), hrun, hended, hq _ hT hW, locs, ⟨⟨_, rfl⟩, hW, hframe⟩, hf⟩
  jvm_step X.here [X.here.top, hexec, hb, hdg, hmeth', hr, narrow]
  (try refine ⟨rfl, ?_⟩); (try refine ⟨rfl, ?_⟩)
  first | (intro acts; rw [hret _ acts rfl rfl rfl]) | rw [hret _ _ rfl rfl rfl]
  exact Steps.refl _
/-- at a return -/
theorem mm_Q_ret (rl : mm_rl s D ca base b L xs sa M ad0 μ0 lo st μ ad H ls locs cells slots) {v : Option mm_V} (hv : ∀ w, v = some w → mm_vd μ.1.1 w) {t : State} (ht : t.heap = H) : mm_Qc D ca base b L xs sa ad0 μ0 (v, μ) args s (.returned (v.map (mm_tr ad))) t :=
  ⟨⟨ad, rfl, by rw [ht]; exact rl.1, rl.2.2.2.2.2.2.2.1, rl.2.2.2.2.2.2.2.2, hv⟩, rl.2.2.2.2.1.F ht⟩

theorem sir_ireturn {S : Nat → List mm_V → mm_M → Option mm_R} (C : mm_cx p s m args meth c D ca base b L xs sa M) (hret : meth.sig.returnType = mm_mr M) (hk : mm_ct M (pc, .ireturn, len, (s0, s1), inf, cs) = true) (rl : mm_rl s D ca base b L xs sa M ad0 μ0 lo st μ ad H ls locs cells slots) (h : mm_t S mm_br mm_bk (.inr (pc, .ireturn, len, (s0, s1), inf, cs)) lo st μ = some (.inl r)) : W p l e R s m args below meth c H locs cells slots (MQ below (mm_Qc D ca base b L xs sa ad0 μ0 r) args s (r.2.1.2.2.2.1 - μ0.1.2.2.2.1) (r.2.1.2.2.2.2 - μ0.1.2.2.2.2) (fun q => base ≤ q)) (F0 m pc ls (st.map (mm_tr ad))) := by
  obtain ⟨hx, hb, hml, hown, hts, hK, hnm, hbs, hX, hbb, hnw, hsx, hlk⟩ := id C
  simp only [mm_ct, Bool.and_eq_true, decide_eq_true_eq, beq_iff_eq] at hk
  obtain ⟨⟨hd, rfl⟩, hr⟩ := hk
  simp only [mm_t] at h
  split at h
  · rename_i x
    cases h
    dsimp only
    have c1 := rl.2.2.2.2.2.1
    have c2 := rl.2.2.2.2.2.2.1
    rw [show μ.1.2.2.2.1 - μ0.1.2.2.2.1 = cells by omega, show μ.1.2.2.2.2 - μ0.1.2.2.2.2 = slots by omega]
    split at hr
    · rename_i hm
      simp only [beq_iff_eq] at hr
      rw [hr]
      exact W.iret hx hb (hret.trans hm) (fun t ht _ => mm_Q_ret (v := some (.inl x)) rl (fun w hw => by cases hw; trivial) ht) rl.2.2.2.2.1.2.2 hd hlk
    · rename_i hm
      simp only [beq_iff_eq] at hr
      rw [hr]
      exact W.zretN hx hb (hret.trans hm) (fun t ht _ => mm_Q_ret (v := some (.inl (x &&& 1))) rl (fun w hw => by cases hw; trivial) ht) rl.2.2.2.2.1.2.2 hd hlk
    · cases hr
  · cases h

theorem sir_areturn {S : Nat → List mm_V → mm_M → Option mm_R} (C : mm_cx p s m args meth c D ca base b L xs sa M) (hret : meth.sig.returnType = mm_mr M) (hk : mm_ct M (pc, .areturn, len, (s0, s1), inf, cs) = true) (rl : mm_rl s D ca base b L xs sa M ad0 μ0 lo st μ ad H ls locs cells slots) (h : mm_t S mm_br mm_bk (.inr (pc, .areturn, len, (s0, s1), inf, cs)) lo st μ = some (.inl r)) : W p l e R s m args below meth c H locs cells slots (MQ below (mm_Qc D ca base b L xs sa ad0 μ0 r) args s (r.2.1.2.2.2.1 - μ0.1.2.2.2.1) (r.2.1.2.2.2.2 - μ0.1.2.2.2.2) (fun q => base ≤ q)) (F0 m pc ls (st.map (mm_tr ad))) := by
  obtain ⟨hx, hb, hml, hown, hts, hK, hnm, hbs, hX, hbb, hnw, hsx, hlk⟩ := id C
  simp only [mm_ct, Bool.and_eq_true, decide_eq_true_eq, beq_iff_eq] at hk
  obtain ⟨⟨hd, rfl⟩, hr⟩ := hk
  simp only [mm_t] at h
  split at h
  · rename_i x
    cases h
    dsimp only
    have c1 := rl.2.2.2.2.2.1
    have c2 := rl.2.2.2.2.2.2.1
    rw [show μ.1.2.2.2.1 - μ0.1.2.2.2.1 = cells by omega, show μ.1.2.2.2.2 - μ0.1.2.2.2.2 = slots by omega]
    split at hr
    · rename_i nm hm
      exact W.aret hx hb (hret.trans hm) (Or.inl ⟨_, rfl⟩) (Or.inr ⟨_, rfl⟩) (fun t ht _ => mm_Q_ret (v := some (.inr x)) rl (fun w hw => by cases hw; exact rl.2.1 _ List.mem_cons_self) ht) rl.2.2.2.2.1.2.2 hd hlk
    · cases hr
  · cases h

theorem sir_return {S : Nat → List mm_V → mm_M → Option mm_R} (C : mm_cx p s m args meth c D ca base b L xs sa M) (hret : meth.sig.returnType = mm_mr M) (hk : mm_ct M (pc, .return_, len, (s0, s1), inf, cs) = true) (rl : mm_rl s D ca base b L xs sa M ad0 μ0 lo st μ ad H ls locs cells slots) (h : mm_t S mm_br mm_bk (.inr (pc, .return_, len, (s0, s1), inf, cs)) lo st μ = some (.inl r)) : W p l e R s m args below meth c H locs cells slots (MQ below (mm_Qc D ca base b L xs sa ad0 μ0 r) args s (r.2.1.2.2.2.1 - μ0.1.2.2.2.1) (r.2.1.2.2.2.2 - μ0.1.2.2.2.2) (fun q => base ≤ q)) (F0 m pc ls (st.map (mm_tr ad))) := by
  obtain ⟨hx, hb, hml, hown, hts, hK, hnm, hbs, hX, hbb, hnw, hsx, hlk⟩ := id C
  simp only [mm_ct, Bool.and_eq_true, decide_eq_true_eq, beq_iff_eq] at hk
  obtain ⟨⟨hd, rfl⟩, hr⟩ := hk
  simp only [mm_t] at h
  split at h
  · cases h
    dsimp only
    have c1 := rl.2.2.2.2.2.1
    have c2 := rl.2.2.2.2.2.2.1
    rw [show μ.1.2.2.2.1 - μ0.1.2.2.2.1 = cells by omega, show μ.1.2.2.2.2 - μ0.1.2.2.2.2 = slots by omega]
    exact W.vret hx hb (hret.trans hr) (fun t ht _ => mm_Q_ret (v := none) rl (fun w hw => by cases hw) ht) rl.2.2.2.2.1.2.2 hd hlk
  · cases h

/-- what holds at a callee's start -/
theorem mm_sta_call (C : mm_cx p s m args meth c D ca base b L xs sa M) (rl : mm_rl s D ca base b L xs sa M ad0 μ0 lo st μ ad H ls locs cells slots) {U : State} (hU : U.heap = H) (hW : s.WarmedH U.vm) : mm_hp D ca base b L xs sa ad μ U.heap ∧ mm_Sta D ca base b L xs sa U := by
  obtain ⟨hx, hb, hml, hown, hts, hK, hnm, hbs, hX, hbb, hnw, hsx, hlk⟩ := id C
  have hS := rl.2.2.2.2.1
  refine ⟨by rw [hU]; exact rl.1, va_K.moved hW.alike hK, by rw [hU]; exact Nat.le_trans hbs hS.1, ?_, hbb, ⟨fun q hq => va_Nw.warmM hW (hnw.1 q hq), va_AO.moved hW.alike hnw.2.1, va_AO.moved hW.alike hnw.2.2.1, va_AO.moved hW.alike hnw.2.2.2.1, va_AO.moved hW.alike hnw.2.2.2.2⟩, ⟨fun q hq => vk_R.warm hW (hsx.1 q hq), by rw [hU]; exact mm_ss_mv hW.alike (mm_ss_kp hsx.2 hS.2.1)⟩⟩
  rw [hU]
  exact va_X.moved hW.alike (hX.kept (hS.2.1 b (Nat.lt_of_lt_of_le hbb hbs) (Nat.not_le.mpr hbb)))
/-- behind a call -/
theorem mm_callk {q : mm_R} {a : Array Value} {mc ms : Nat} {st0 : List Value} {rest : List mm_V} (rl : mm_rl s D ca base b L xs sa M ad0 μ0 lo rest μ ad H ls locs cells slots) (hmc : mc = q.2.1.2.2.2.1 - μ.1.2.2.2.1) (hms : ms = q.2.1.2.2.2.2 - μ.1.2.2.2.2) (hle : mm_le μ q.2) (hr : va_Run p l e R s m args below meth c H locs cells slots mc ms (F0 m pc ls st0) (rest.map (mm_tr ad)) (mm_Qc D ca base b L xs sa ad μ q a) (fun q => base ≤ q))
    (kk : ∀ (ad' : Nat → Nat → Nat) (H' : Heap) (locs' : List Loc), mm_rl s D ca base b L xs sa M ad0 μ0 lo (q.1.toList ++ rest) q.2 ad' H' ls locs' (cells + mc) (slots + ms) → W p l e R s m args below meth c H' locs' (cells + mc) (slots + ms) Q (F0 m (pc + 3) ls ((q.1.toList ++ rest).map (mm_tr ad')))) : W p l e R s m args below meth c H locs cells slots Q (F0 m pc ls st0) := by
  intro T hT X
  obtain ⟨v, st₀, t, T', L', h0, X', hL, e1, e2, ⟨⟨ad', hv, hp, hext, hmono, hval⟩, hz, hk⟩, stp⟩ := hr T hT X
  cases hv
  rw [h0] at hz hk
  have hS := rl.2.2.2.2.1
  obtain ⟨al, -, -, -, -, -, -, h9, h13, -, -⟩ := rl.1
  have hp0 := hp
  obtain ⟨al', -, -, -, -, -, -, h9', h13', -, -⟩ := hp0
  have g9 : ad' 199 0 = ad 199 0 := h9'.trans h9.symm
  have g13 : ∀ i, i < 8 → ad' 13 i = ad 13 i := fun i hi => (h13' i hi).trans (h13 i hi).symm
  have c1 := rl.2.2.2.2.2.1
  have c2 := rl.2.2.2.2.2.2.1
  have rl2 : mm_rl s D ca base b L xs sa M ad0 μ0 lo (q.1.toList ++ rest) q.2 ad' T'.heap ls (locs ++ L') (cells + mc) (slots + ms) := by
    refine ⟨by rw [e1]; exact hp, fun w hw => ?_, fun i w hw => mm_vd_mono hmono (rl.2.2.1 i w hw), ?_, ⟨Nat.le_trans hS.1 (by rw [e1]; exact hz), fun x h1 h2 => by rw [e1, hk x (Nat.lt_of_lt_of_le h1 hS.1) h2]; exact hS.2.1 x h1 h2, fun x hx => ?_⟩, by have := hle.1; omega, by have := hle.2; omega, fun k i hi => by rw [hext k i (Nat.lt_of_lt_of_le hi (rl.2.2.2.2.2.2.2.2 k))]; exact rl.2.2.2.2.2.2.2.1 k i hi, fun k => Nat.le_trans (rl.2.2.2.2.2.2.2.2 k) (hmono k)⟩
    · rcases List.mem_append.mp hw with h | h
      · exact hval w (by cases hq : q.1 with
          | none => rw [hq] at h; cases h
          | some y => rw [hq] at h; rw [List.mem_singleton.mp h])
      · exact mm_vd_mono hmono (rl.2.1 w h)
    · rw [mm_as_ext hext g9 g13 rl.2.2.1]; exact rl.2.2.2.1
    · rcases List.mem_append.mp hx with h | h
      · exact hS.2.2 x h
      · exact hL x h
  obtain ⟨t2, a1, b1⟩ := kk ad' T'.heap (locs ++ L') rl2 T' rfl X'
  refine ⟨t2, stp t2 ?_, b1⟩
  have e3 : (q.1.map (mm_tr ad')).toList ++ rest.map (mm_tr ad) = (q.1.toList ++ rest).map (mm_tr ad') := by
    rw [List.map_append, mm_map_ext hext g9 g13 rl.2.1]
    cases q.1 <;> rfl
  rw [e3]
  exact a1

end SIR
