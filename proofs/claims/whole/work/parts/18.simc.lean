set_option maxRecDepth 10000 in
theorem mm_room {d n a b : Nat} (h1 : d + 9 ≤ a) (h2 : 100 * d + 500 ≤ b) (hn : n ≤ 30) : d + 8 + 1 ≤ a ∧ 8 + (n + 11) + (100 * d + 400) ≤ b := by
  refine ⟨h1, Nat.le_trans ?_ h2⟩
  generalize 100 * d = x
  omega
theorem mm_cont_eq {ρ : Type} (K : mm_K ρ) (lo : mm_L) (r : List mm_V) (q : mm_R) : mm_cont K lo r q = K lo (q.1.toList ++ r) q.2 := by
  obtain ⟨v | v, μ⟩ := q <;> rfl
theorem mm_cal_in {S : Nat → List mm_V → mm_M → Option mm_R} {k m n : Nat} {lo : mm_L} {st : List mm_V} {μ : mm_M} {z : mm_R ⊕ (Nat × mm_L × List mm_V × mm_M)} (h : mm_cal S (mm_bk k) m n lo st μ = some z) : n ≤ st.length ∧ st.length ≤ 8 + n ∧ ∃ q : mm_R, S m (st.take n).reverse μ = some q ∧ z = .inr (k, lo, q.1.toList ++ st.drop n, q.2) := by
  unfold mm_cal at h
  cases hb : Nat.ble n st.length && Nat.ble st.length (8 + n) with
  | false => rw [hb] at h; cases h
  | true =>
    rw [hb] at h
    simp only [Bool.and_eq_true] at hb
    refine ⟨Nat.le_of_ble_eq_true hb.1, Nat.le_of_ble_eq_true hb.2, ?_⟩
    cases hq : S m (st.take n).reverse μ with
    | none => rw [cond, hq] at h; cases h
    | some q =>
      rw [cond, hq] at h
      refine ⟨q, rfl, ?_⟩
      have h1 : mm_cont (mm_bk k) lo (st.drop n) q = some z := h
      rw [mm_cont_eq] at h1
      cases h1
      rfl
theorem mm_rcv_in {n kd : Nat} {st : List mm_V} (h : mm_rcv (n + 1) kd st = true) : ∃ i : Nat, st = st.take n ++ .inr (kd, i) :: st.drop (n + 1) ∧ (st.take (n + 1)).reverse = .inr (kd, i) :: (st.take n).reverse ∧ n + 1 ≤ st.length := by
  unfold mm_rcv at h
  rw [Nat.add_sub_cancel] at h
  split at h
  · rename_i q r hd
    have hk := mm_beq h
    obtain ⟨k, i⟩ := q
    dsimp only at hk
    subst hk
    have e1 : st.drop (n + 1) = r := by rw [← List.drop_drop, hd]; rfl
    have e2 : st = st.take n ++ .inr (k, i) :: st.drop (n + 1) := by
      rw [e1, ← hd]; exact (List.take_append_drop n st).symm
    have hl : n < st.length := by
      rcases Nat.lt_or_ge n st.length with h1 | h1
      · exact h1
      · rw [List.drop_eq_nil_of_le h1] at hd; cases hd
    refine ⟨i, e2, ?_, hl⟩
    rw [List.take_succ, List.reverse_append]
    have e3 : st[n]? = some (.inr (k, i)) := by
      have := congrArg List.head? hd
      rw [List.head?_drop] at this
      exact this
    rw [e3]
    rfl
  · cases h

section SIC
variable {p : Program} {l : Launch} {e : Env} {R : Room} {s : State} {m : MethodId} {args : Array Value} {below : List Frame} {meth : Method} {c : Code} {Q : State → Prop}
variable {D : va_G} {ca : Nat → ClassId} {base b L : Nat} {xs : Nat → Int32} {sa : Nat → Nat} {M : Nat} {ad0 : Nat → Nat → Nat} {μ0 : mm_M}
variable {lo lo' : mm_L} {st st' : List mm_V} {μ μ' : mm_M} {ad : Nat → Nat → Nat} {H : Heap} {ls : Array Slot} {locs : List Loc} {cells slots : Nat}
variable {pc len : Nat} {inf : Nat × Nat × Nat} {cst : Int32}
variable {s0 s1 d kz : Nat} {cs : List (Int32 × Nat)}

theorem sic_virtual {idx : Nat} (IH : ∀ (M : Nat) (as : List mm_V) (μ : mm_M) (r : mm_R), M < 246 → mm_S PP NN d M as μ = some r → mm_Met l d M as μ r) (C : mm_cx p s m args meth c D ca base b L xs sa M) (hRf : d + 9 ≤ R.frames) (hRl : 100 * d + 500 ≤ R.locals) (hk : mm_ct M (pc, .invokevirtual idx, len, (s0, s1), inf, cs) = true) (rl : mm_rl s D ca base b L xs sa M ad0 μ0 lo st μ ad H ls locs cells slots) (h : mm_t (mm_S PP NN d) mm_br mm_bk (.inr (pc, .invokevirtual idx, len, (s0, s1), inf, cs)) lo st μ = some (.inr (kz, lo', st', μ'))) (hRc : μ'.1.2.2.2.1 ≤ μ0.1.2.2.2.1 + R.cells) (hRs : μ'.1.2.2.2.2 ≤ μ0.1.2.2.2.2 + R.slots) (kk : ∀ (ad' : Nat → Nat → Nat) (H' : Heap) (locs' : List Loc) (cells' slots' : Nat), mm_rl s D ca base b L xs sa M ad0 μ0 lo' st' μ' ad' H' ls locs' cells' slots' → W p l e R s m args below meth c H' locs' cells' slots' Q (F0 m (mm_npc0 (PP M kz)) ls (st'.map (mm_tr ad')))) : W p l e R s m args below meth c H locs cells slots Q (F0 m pc ls (st.map (mm_tr ad))) := by
  obtain ⟨hx, hb, hml, hown, hts, hK, hnm, hbs, hX, hbb, hnw, hsx, hlk⟩ := id C
  simp only [mm_ct, Bool.and_eq_true, decide_eq_true_eq, beq_iff_eq] at hk
  obtain ⟨⟨⟨⟨⟨⟨⟨⟨hd, rfl⟩, hn⟩, hM⟩, hw⟩, hst⟩, hne⟩, hna⟩, hmo⟩ := hk
  have hM : inf.1 < 246 := hM
  obtain ⟨w1, w2, w3⟩ := mm_wya hM
  obtain ⟨w4, w5⟩ := mm_wyc hM
  obtain ⟨w6, w7, w8, w9⟩ := mm_wd hM
  have hini : (Cond.initialized (mm_my inf.1).cls).before args s = true := by rw [w6]; exact hts _ (mm_wi (by omega))
  have hst : (mm_mw inf.1).2.2.2.2 = 0 := hst
  rw [hst] at w3 w5
  have hna : inf.2.1 = (mm_mw inf.1).2.2.2.1 + 1 := hna
  have hmo : mm_mo inf.1 = inf.2.2 := hmo
  simp only [mm_t] at h
  cases hrc : mm_rcv inf.2.1 inf.2.2 st with
  | false => rw [hrc] at h; cases h
  | true =>
  rw [hrc] at h
  obtain ⟨hl1, hl2, q, hq, hz⟩ := mm_cal_in h
  cases hz
  have hle := mm_S_le _ _ _ _ _ hq
  rw [hna] at hrc hq hl1 hl2 kk
  obtain ⟨i, e1, e2, -⟩ := mm_rcv_in hrc
  generalize (mm_mw inf.1).2.2.2.1 = na at *
  have hin : ∀ v ∈ (st.take (na + 1)).reverse, mm_vd μ.1.1 v := fun v hv => rl.2.1 v (List.mem_of_mem_take (List.mem_reverse.mp hv))
  have hlen : (st.take (na + 1)).reverse.length = na + 1 := by rw [List.length_reverse, List.length_take]; omega
  have hmet := IH inf.1 _ μ q hM hq D ca base b L xs sa ad hin (by rw [hlen]; exact w5)
  have hAs : (st.take na).reverse.length = na := by rw [List.length_reverse, List.length_take]; omega
  have rl2 : mm_rl s D ca base b L xs sa M ad0 μ0 lo (st.drop (na + 1)) μ ad H ls locs cells slots := mm_rl_st rl fun v hv => rl.2.1 v (List.mem_of_mem_drop hv)
  have c1 := rl.2.2.2.2.2.1
  have c2 := rl.2.2.2.2.2.2.1
  have h13 : inf.2.2 < 13 := by omega
  obtain ⟨al, hal, -, hP, -⟩ := rl.1
  have hi : i < μ.1.1 inf.2.2 := mm_k13 h13 (hin (.inr (inf.2.2, i)) (by rw [e2]; exact List.mem_cons_self))
  obtain ⟨q0, h0, he⟩ := mm_ws_at (cA := mm_ca ca) (ad := ad) (μ := μ) ((hal inf.2.2 i).mpr hi)
  rw [mm_ent_obj (by omega)] at he
  have hstk : (F0 m pc ls (st.map (mm_tr ad))).stack = ((st.take na).reverse.map (mm_tr ad)).reverse ++ .ref (ad inf.2.2 i) :: (st.drop (na + 1)).map (mm_tr ad) := by
    show st.map (mm_tr ad) = _
    have := congrArg (List.map (mm_tr ad)) e1
    rw [List.map_append] at this
    rw [← List.map_reverse, List.reverse_reverse]
    exact this
  refine mm_callk (a := ((st.take (na + 1)).reverse.map (mm_tr ad)).toArray) rl2 rfl rfl hle ?_ (fun ad' H' locs' rl' => ?_)
  · rw [e2] at hmet ⊢
    exact va_runV (g := F0 m pc ls (st.map (mm_tr ad))) (As := (st.take na).reverse.map (mm_tr ad)) (b := ad inf.2.2 i) (rest := (st.drop (na + 1)).map (mm_tr ad)) (C := (mm_my inf.1).cls) (n := na) (H := H) (locs := locs) (cells := cells) (slots := slots) ⟨hx, hb, hml, hown, hts⟩ hmet ⟨callB_of na hts (mm_goodM hM) rfl rfl rfl hini (hts _ (mm_hasm_ok hw)) ⟨w9.1, w9.2, w4⟩ (mm_room hRf hRl (by rw [w1]; exact w2)), hts _ w3, hts _ (mm_wyb hM hst hne)⟩ ⟨mm_blind, by rw [w6, hmo]; exact va_recv hK hP (mm_cl_at h13) he, fun U hU hW => ⟨rfl, mm_sta_call C rl hU hW⟩⟩ rfl (by rw [List.length_map]; exact hAs) rl.2.2.2.1.1 hstk (lv_room (by rw [mm_cats, List.length_drop]; omega)) hd ⟨by show cells + (_ - _) ≤ _; have := hle.1; omega, by show slots + (_ - _) ≤ _; have := hle.2; omega⟩
  · rw [hn]
    exact kk ad' H' locs' _ _ rl'

theorem sic_static {idx : Nat} (IH : ∀ (M : Nat) (as : List mm_V) (μ : mm_M) (r : mm_R), M < 246 → mm_S PP NN d M as μ = some r → mm_Met l d M as μ r) (C : mm_cx p s m args meth c D ca base b L xs sa M) (hRf : d + 9 ≤ R.frames) (hRl : 100 * d + 500 ≤ R.locals) (hk : mm_ct M (pc, .invokestatic idx, len, (s0, s1), inf, cs) = true) (rl : mm_rl s D ca base b L xs sa M ad0 μ0 lo st μ ad H ls locs cells slots) (h : mm_t (mm_S PP NN d) mm_br mm_bk (.inr (pc, .invokestatic idx, len, (s0, s1), inf, cs)) lo st μ = some (.inr (kz, lo', st', μ'))) (hRc : μ'.1.2.2.2.1 ≤ μ0.1.2.2.2.1 + R.cells) (hRs : μ'.1.2.2.2.2 ≤ μ0.1.2.2.2.2 + R.slots) (kk : ∀ (ad' : Nat → Nat → Nat) (H' : Heap) (locs' : List Loc) (cells' slots' : Nat), mm_rl s D ca base b L xs sa M ad0 μ0 lo' st' μ' ad' H' ls locs' cells' slots' → W p l e R s m args below meth c H' locs' cells' slots' Q (F0 m (mm_npc0 (PP M kz)) ls (st'.map (mm_tr ad')))) : W p l e R s m args below meth c H locs cells slots Q (F0 m pc ls (st.map (mm_tr ad))) := by
  obtain ⟨hx, hb, hml, hown, hts, hK, hnm, hbs, hX, hbb, hnw, hsx, hlk⟩ := id C
  simp only [mm_ct, Bool.and_eq_true, decide_eq_true_eq, beq_iff_eq] at hk
  obtain ⟨⟨⟨⟨⟨⟨hd, rfl⟩, hn⟩, hM⟩, hw⟩, hst⟩, hna⟩ := hk
  have hM : inf.1 < 246 := hM
  obtain ⟨w1, w2, w3⟩ := mm_wya hM
  obtain ⟨w4, w5⟩ := mm_wyc hM
  obtain ⟨w6, w7, w8, w9⟩ := mm_wd hM
  have hini : (Cond.initialized (mm_my inf.1).cls).before args s = true := by rw [w6]; exact hts _ (mm_wi (by omega))
  have hst : (mm_mw inf.1).2.2.2.2 = 1 := hst
  rw [hst] at w3 w5
  have hna : inf.2.1 = (mm_mw inf.1).2.2.2.1 := hna
  simp only [mm_t] at h
  obtain ⟨hl1, hl2, q, hq, hz⟩ := mm_cal_in h
  cases hz
  have hle := mm_S_le _ _ _ _ _ hq
  rw [hna] at hq hl1 hl2 kk
  generalize (mm_mw inf.1).2.2.2.1 = na at *
  have hin : ∀ v ∈ (st.take na).reverse, mm_vd μ.1.1 v := fun v hv => rl.2.1 v (List.mem_of_mem_take (List.mem_reverse.mp hv))
  have hlen : (st.take na).reverse.length = na := by rw [List.length_reverse, List.length_take]; omega
  have hmet := IH inf.1 _ μ q hM hq D ca base b L xs sa ad hin (by rw [hlen]; omega)
  have rl2 : mm_rl s D ca base b L xs sa M ad0 μ0 lo (st.drop na) μ ad H ls locs cells slots := mm_rl_st rl fun v hv => rl.2.1 v (List.mem_of_mem_drop hv)
  have c1 := rl.2.2.2.2.2.1
  have c2 := rl.2.2.2.2.2.2.1
  have hstk : (F0 m pc ls (st.map (mm_tr ad))).stack = ((st.take na).reverse.map (mm_tr ad)).reverse ++ (st.drop na).map (mm_tr ad) := by
    show st.map (mm_tr ad) = _
    have := congrArg (List.map (mm_tr ad)) (List.take_append_drop na st).symm
    rw [List.map_append] at this
    rw [← List.map_reverse, List.reverse_reverse]
    exact this
  refine mm_callk (a := ((st.take na).reverse.map (mm_tr ad)).toArray) rl2 rfl rfl hle ?_ (fun ad' H' locs' rl' => ?_)
  · have hR2 : d + 8 + 1 ≤ R.frames ∧ 8 + ((mm_q inf.1).2.2.1 + 11) + (100 * d + 400) ≤ R.locals := mm_room hRf hRl (by rw [w1]; exact w2)
    have hf : cells + (q.2.1.2.2.2.1 - μ.1.2.2.2.1) ≤ R.cells ∧ slots + (q.2.1.2.2.2.2 - μ.1.2.2.2.2) ≤ R.slots := ⟨by have := hle.1; omega, by have := hle.2; omega⟩
    rcases Bool.or_eq_true _ _ ▸ hw with hw | hw
    · exact va_runS (g := F0 m pc ls (st.map (mm_tr ad))) (As := (st.take na).reverse.map (mm_tr ad)) (rest := (st.drop na).map (mm_tr ad)) (n := na) ⟨hx, hb, hml, hown, hts⟩ hmet ⟨callB_of na hts (mm_goodM hM) rfl rfl rfl hini (hts _ (mm_hasm_ok hw)) ⟨w9.1, w9.2, w4⟩ hR2, hts _ w3⟩ ⟨mm_blind, fun U hU hW => ⟨rfl, mm_sta_call C rl hU hW⟩⟩ rfl (by rw [List.length_map]; exact hlen) rl.2.2.2.1.1 hstk (lv_room (by rw [mm_cats, List.length_drop]; omega)) hd hf
    · obtain ⟨qn, hqn, g1, g2, g3⟩ := mm_has_n hw
      have hnn := hnw.1 qn hqn
      rw [g1, g2, g3] at hnn
      exact va_runSN (g := F0 m pc ls (st.map (mm_tr ad))) (As := (st.take na).reverse.map (mm_tr ad)) (rest := (st.drop na).map (mm_tr ad)) (n := na) ⟨hx, hb, hml, hown, hts⟩ hmet ⟨va_cnB na hts (mm_goodM hM) rfl rfl rfl hnn hini ⟨w9.1, w9.2, w4⟩ hR2, hts _ w3, trivial⟩ ⟨mm_blind, fun U hU hW => ⟨rfl, mm_sta_call C rl hU hW⟩⟩ rfl (by rw [List.length_map]; exact hlen) rl.2.2.2.1.1 hstk (lv_room (by rw [mm_cats, List.length_drop]; omega)) hd hf
  · rw [hn]
    exact kk ad' H' locs' _ _ rl'

theorem sic_special {idx : Nat} (IH : ∀ (M : Nat) (as : List mm_V) (μ : mm_M) (r : mm_R), M < 246 → mm_S PP NN d M as μ = some r → mm_Met l d M as μ r) (C : mm_cx p s m args meth c D ca base b L xs sa M) (hRf : d + 9 ≤ R.frames) (hRl : 100 * d + 500 ≤ R.locals) (hk : mm_ct M (pc, .invokespecial idx, len, (s0, s1), inf, cs) = true) (rl : mm_rl s D ca base b L xs sa M ad0 μ0 lo st μ ad H ls locs cells slots) (h : mm_t (mm_S PP NN d) mm_br mm_bk (.inr (pc, .invokespecial idx, len, (s0, s1), inf, cs)) lo st μ = some (.inr (kz, lo', st', μ'))) (hRc : μ'.1.2.2.2.1 ≤ μ0.1.2.2.2.1 + R.cells) (hRs : μ'.1.2.2.2.2 ≤ μ0.1.2.2.2.2 + R.slots) (kk : ∀ (ad' : Nat → Nat → Nat) (H' : Heap) (locs' : List Loc) (cells' slots' : Nat), mm_rl s D ca base b L xs sa M ad0 μ0 lo' st' μ' ad' H' ls locs' cells' slots' → W p l e R s m args below meth c H' locs' cells' slots' Q (F0 m (mm_npc0 (PP M kz)) ls (st'.map (mm_tr ad')))) : W p l e R s m args below meth c H locs cells slots Q (F0 m pc ls (st.map (mm_tr ad))) := by
  obtain ⟨hx, hb, hml, hown, hts, hK, hnm, hbs, hX, hbb, hnw, hsx, hlk⟩ := id C
  simp only [mm_ct, Bool.and_eq_true, decide_eq_true_eq, beq_iff_eq] at hk
  obtain ⟨⟨⟨⟨⟨⟨⟨⟨⟨hd, rfl⟩, hn⟩, hM⟩, hw⟩, hst⟩, hne⟩, hno⟩, hna⟩, hmo⟩ := hk
  have hM : inf.1 < 246 := hM
  obtain ⟨w1, w2, w3⟩ := mm_wya hM
  obtain ⟨w4, w5⟩ := mm_wyc hM
  obtain ⟨w6, w7, w8, w9⟩ := mm_wd hM
  have hini : (Cond.initialized (mm_my inf.1).cls).before args s = true := by rw [w6]; exact hts _ (mm_wi (by omega))
  have hst : (mm_mw inf.1).2.2.2.2 = 0 := hst
  rw [hst] at w3 w5
  have hna : inf.2.1 = (mm_mw inf.1).2.2.2.1 + 1 := hna
  simp only [mm_t] at h
  cases hrc : mm_rcv inf.2.1 inf.2.2 st with
  | false => rw [hrc] at h; cases h
  | true =>
  rw [hrc] at h
  obtain ⟨hl1, hl2, q, hq, hz⟩ := mm_cal_in h
  cases hz
  have hle := mm_S_le _ _ _ _ _ hq
  rw [hna] at hrc hq hl1 hl2 kk
  obtain ⟨i, e1, e2, -⟩ := mm_rcv_in hrc
  generalize (mm_mw inf.1).2.2.2.1 = na at *
  have hin : ∀ v ∈ (st.take (na + 1)).reverse, mm_vd μ.1.1 v := fun v hv => rl.2.1 v (List.mem_of_mem_take (List.mem_reverse.mp hv))
  have hlen : (st.take (na + 1)).reverse.length = na + 1 := by rw [List.length_reverse, List.length_take]; omega
  have hmet := IH inf.1 _ μ q hM hq D ca base b L xs sa ad hin (by rw [hlen]; exact w5)
  have hAs : (st.take na).reverse.length = na := by rw [List.length_reverse, List.length_take]; omega
  have rl2 : mm_rl s D ca base b L xs sa M ad0 μ0 lo (st.drop (na + 1)) μ ad H ls locs cells slots := mm_rl_st rl fun v hv => rl.2.1 v (List.mem_of_mem_drop hv)
  have c1 := rl.2.2.2.2.2.1
  have c2 := rl.2.2.2.2.2.2.1
  have hstk : (F0 m pc ls (st.map (mm_tr ad))).stack = ((st.take na).reverse.map (mm_tr ad)).reverse ++ .ref (ad inf.2.2 i) :: (st.drop (na + 1)).map (mm_tr ad) := by
    show st.map (mm_tr ad) = _
    have := congrArg (List.map (mm_tr ad)) e1
    rw [List.map_append] at this
    rw [← List.map_reverse, List.reverse_reverse]
    exact this
  have hws : mm_wM inf.1 = Cond.code (mm_my inf.1) (mm_mc inf.1) (mm_q inf.1).2.2.1 none :: mm_big := by
    unfold mm_wM mm_cw
    rw [show (mm_q inf.1).2.2.2 = none from hno]
    rfl
  refine mm_callk (a := ((st.take (na + 1)).reverse.map (mm_tr ad)).toArray) rl2 rfl rfl hle ?_ (fun ad' H' locs' rl' => ?_)
  · have hR2 : d + 8 + 1 ≤ R.frames ∧ 8 + ((mm_q inf.1).2.2.1 + 11) + (100 * d + 400) ≤ R.locals := mm_room hRf hRl (by rw [w1]; exact w2)
    have hf : cells + (q.2.1.2.2.2.1 - μ.1.2.2.2.1) ≤ R.cells ∧ slots + (q.2.1.2.2.2.2 - μ.1.2.2.2.2) ≤ R.slots := ⟨by have := hle.1; omega, by have := hle.2; omega⟩
    rw [e2] at hmet ⊢
    rcases Bool.or_eq_true _ _ ▸ hw with hw | hw
    · exact va_runI (g := F0 m pc ls (st.map (mm_tr ad))) (As := (st.take na).reverse.map (mm_tr ad)) (b := ad inf.2.2 i) (rest := (st.drop (na + 1)).map (mm_tr ad)) (n := na) ⟨hx, hb, hml, hown, hts⟩ hmet ⟨callB_of na hts (mm_goodM hM) hws rfl rfl hini (hts _ (mm_hasm_ok hw)) ⟨w9.1, w9.2, w4⟩ hR2, hne, hts _ w3⟩ ⟨mm_blind, fun U hU hW => ⟨rfl, mm_sta_call C rl hU hW⟩⟩ rfl (by rw [List.length_map]; exact hAs) rl.2.2.2.1.1 hstk (lv_room (by rw [mm_cats, List.length_drop]; omega)) hd hf
    · obtain ⟨qn, hqn, g1, g2, g3⟩ := mm_has_n hw
      have hnn := hnw.1 qn hqn
      rw [g1, g2, g3] at hnn
      exact va_runIN (g := F0 m pc ls (st.map (mm_tr ad))) (As := (st.take na).reverse.map (mm_tr ad)) (b := ad inf.2.2 i) (rest := (st.drop (na + 1)).map (mm_tr ad)) (n := na) ⟨hx, hb, hml, hown, hts⟩ hmet ⟨va_cnB na hts (mm_goodM hM) hws rfl rfl hnn hini ⟨w9.1, w9.2, w4⟩ hR2, hne, hts _ w3⟩ ⟨mm_blind, fun U hU hW => ⟨rfl, mm_sta_call C rl hU hW⟩⟩ rfl (by rw [List.length_map]; exact hAs) rl.2.2.2.1.1 hstk (lv_room (by rw [mm_cats, List.length_drop]; omega)) hd hf
  · rw [hn]
    exact kk ad' H' locs' _ _ rl'

end SIC
