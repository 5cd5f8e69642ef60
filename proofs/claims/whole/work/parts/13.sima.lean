section SIM
variable {p : Program} {l : Launch} {e : Env} {R : Room} {s : State} {m : MethodId} {args : Array Value} {below : List Frame} {meth : Method} {c : Code} {Q : State → Prop}
variable {D : va_G} {ca : Nat → ClassId} {base b L : Nat} {xs : Nat → Int32} {sa : Nat → Nat} {M : Nat} {ad0 : Nat → Nat → Nat} {μ0 : mm_M}
variable {lo lo' : mm_L} {st st' : List mm_V} {μ μ' : mm_M} {ad : Nat → Nat → Nat} {H : Heap} {ls : Array Slot} {locs : List Loc} {cells slots : Nat}
variable {pc len : Nat} {inf : Nat × Nat × Nat} {cst : Int32}

theorem mm_vpin {x : Int32} {n : Nat} (h : 0 ≤ x.toInt ∧ x.toInt < (n : Int)) : vp_in x n := vp_in_iff.mpr h
theorem mm_ln_199 {i : Nat} : mm_ln μ 199 i = (μ.2 199 1 0).toInt.toNat := rfl
theorem mm_ln_ne {k i : Nat} (h : k ≠ 199) : mm_ln μ k i = μ.1.2.1 k i := by
  unfold mm_ln
  cases hb : Nat.beq k 199 with
  | true => exact absurd (Nat.eq_of_beq_eq_true hb) h
  | false => rfl
theorem mm_ca_int {k : Nat} (h : k < 200) : (mm_tys ca)[0]? = some (mm_ca ca k, .int) := by unfold mm_ca; rw [if_pos h]; rfl
theorem mm_ca_bool {k : Nat} (h : 200 ≤ k) (h2 : k < 210) : (mm_tys ca)[1]? = some (mm_ca ca k, .boolean) := by unfold mm_ca; rw [if_neg (by omega), if_pos h2]; rfl
theorem mm_ca_char {k : Nat} (h : 210 ≤ k) (h2 : k < 220) : (mm_tys ca)[2]? = some (mm_ca ca k, .char) := by unfold mm_ca; rw [if_neg (by omega), if_neg (by omega), if_pos h2]; rfl
theorem mm_ca_ref {k : Nat} (h : 300 ≤ k) (h2 : k < 304) : (mm_tys ca)[k - 297]? = some (mm_ca ca k, .object (mm_cs (mm_ek k))) := by
  rcases (show k = 300 ∨ k = 301 ∨ k = 302 ∨ k = 303 by omega) with rfl | rfl | rfl | rfl <;> rfl
theorem mm_n199 (hp : mm_hp D ca base b L xs sa ad μ H) : μ.1.1 199 = 0 := by
  obtain ⟨al, hal, hok, -⟩ := hp
  rcases Nat.eq_zero_or_pos (μ.1.1 199) with h | h
  · exact h
  · have h1 := hok _ ((hal 199 0).mpr h)
    cases h1
theorem mm_range {lo hi k : Nat} (h : (Nat.ble lo k && Nat.blt k hi) = true) : lo ≤ k ∧ k < hi := by
  simp only [Bool.and_eq_true] at h
  exact ⟨Nat.le_of_ble_eq_true h.1, Nat.le_of_ble_eq_true h.2⟩

theorem sim_iaload (C : mm_cx p s m args meth c D ca base b L xs sa M) (hk : mm_ce M (pc, .iaload, len, inf, cst) = true) (rl : mm_rl s D ca base b L xs sa M ad0 μ0 lo st μ ad H ls locs cells slots) (h : mm_s (pc, .iaload, len, inf, cst) mm_fin lo st μ = some (lo', st', μ')) (kk : ∀ (ad' : Nat → Nat → Nat) (H' : Heap) (ls' : Array Slot) (locs' : List Loc) (cells' slots' : Nat), mm_rl s D ca base b L xs sa M ad0 μ0 lo' st' μ' ad' H' ls' locs' cells' slots' → W p l e R s m args below meth c H' locs' cells' slots' Q (F0 m (pc + len) ls' (st'.map (mm_tr ad')))) : W p l e R s m args below meth c H locs cells slots Q (F0 m pc ls (st.map (mm_tr ad))) := by
  obtain ⟨hx, hb, hml, hown, hts, hK, hnm, hbs, hX, hbb, hnw, hsx, hlk⟩ := id C
  simp only [mm_ce, Bool.and_eq_true, decide_eq_true_eq, beq_iff_eq] at hk
  obtain ⟨hd, rfl⟩ := hk
  simp only [mm_s, mm_ald] at h
  split at h
  · rename_i x k i r
    cases hrg : Nat.ble 20 k && Nat.blt k 200 with
    | false => rw [hrg] at h; cases h
    | true =>
    rw [hrg] at h
    obtain ⟨hk1, hk2⟩ := mm_range hrg
    dsimp only [cond] at h
    obtain ⟨al, hal, hok, hP, hD, hr, hz, h9, h13s, hxs, hL⟩ := rl.1
    split at h
    · rename_i hin
      cases h
      by_cases h199 : k = 199
      · subst h199
        have hi : i = 0 := by
          rcases rl.2.1 _ (List.mem_cons_of_mem _ List.mem_cons_self) with hh | ⟨-, hh⟩ | ⟨hh, -⟩
          · have := mm_n199 rl.1; dsimp only at hh; omega
          · exact hh
          · dsimp only at hh; omega
        subst hi
        rw [mm_ln_199, hL, Int.toNat_natCast] at hin
        show W p l e R s m args below meth c H locs cells slots Q (F0 m pc ls (.int x :: .ref (ad 199 0) :: r.map (mm_tr ad)))
        rw [h9]
        refine va_sld hx hb hX (Nat.lt_of_lt_of_le hbb hbs) (Nat.not_le.mpr hbb) rl.2.2.2.2.1 (mm_vpin hin) hd ?_
        have hlt : x.toInt.toNat < L := by omega
        have e := hxs _ hlt
        have := kk ad H ls locs cells slots (mm_rl_push (v := .inl (μ.2 199 0 x.toInt.toNat)) (mm_rl_tail (mm_rl_tail rl)) trivial)
        rw [e] at this
        exact this
      · rw [mm_ln_ne h199] at hin
        have hi := mm_k20 hk1 h199 (rl.2.1 _ (List.mem_cons_of_mem _ List.mem_cons_self))
        obtain ⟨q0, h0, he⟩ := mm_ws_at (cA := mm_ca ca) (ad := ad) (μ := μ) ((hal k i).mpr hi)
        rw [mm_ent_int hk1 (by omega)] at he
        exact va_iald hx hb hK hP q0 0 he (mm_ca_int hk2) (mm_vpin hin) hd (kk ad H ls locs cells slots (mm_rl_push (v := .inl (μ.2 k i x.toInt.toNat)) (mm_rl_tail (mm_rl_tail rl)) trivial))
    · cases h
  · cases h

theorem sim_baload (C : mm_cx p s m args meth c D ca base b L xs sa M) (hk : mm_ce M (pc, .baload, len, inf, cst) = true) (rl : mm_rl s D ca base b L xs sa M ad0 μ0 lo st μ ad H ls locs cells slots) (h : mm_s (pc, .baload, len, inf, cst) mm_fin lo st μ = some (lo', st', μ')) (kk : ∀ (ad' : Nat → Nat → Nat) (H' : Heap) (ls' : Array Slot) (locs' : List Loc) (cells' slots' : Nat), mm_rl s D ca base b L xs sa M ad0 μ0 lo' st' μ' ad' H' ls' locs' cells' slots' → W p l e R s m args below meth c H' locs' cells' slots' Q (F0 m (pc + len) ls' (st'.map (mm_tr ad')))) : W p l e R s m args below meth c H locs cells slots Q (F0 m pc ls (st.map (mm_tr ad))) := by
  obtain ⟨hx, hb, hml, hown, hts, hK, hnm, hbs, hX, hbb, hnw, hsx, hlk⟩ := id C
  simp only [mm_ce, Bool.and_eq_true, decide_eq_true_eq, beq_iff_eq] at hk
  obtain ⟨hd, rfl⟩ := hk
  simp only [mm_s, mm_ald] at h
  split at h
  · rename_i x k i r
    cases hrg : Nat.ble 200 k && Nat.blt k 210 with
    | false => rw [hrg] at h; cases h
    | true =>
    rw [hrg] at h
    obtain ⟨hk1, hk2⟩ := mm_range hrg
    dsimp only [cond] at h
    obtain ⟨al, hal, hok, hP, hD, hr, hz, h9, h13s, hxs, hL⟩ := rl.1
    split at h
    · rename_i hin
      cases h
      have h199 : k ≠ 199 := by omega
      rw [mm_ln_ne h199] at hin
      have hi := mm_k20 (by omega) h199 (rl.2.1 _ (List.mem_cons_of_mem _ List.mem_cons_self))
      obtain ⟨q0, h0, he⟩ := mm_ws_at (cA := mm_ca ca) (ad := ad) (μ := μ) ((hal k i).mpr hi)
      rw [mm_ent_int (by omega) (by omega)] at he
      exact va_zald hx hb hK hP q0 1 he (mm_ca_bool hk1 hk2) (mm_vpin hin) hd (kk ad H ls locs cells slots (mm_rl_push (v := .inl (μ.2 k i x.toInt.toNat)) (mm_rl_tail (mm_rl_tail rl)) trivial))
    · cases h
  · cases h

theorem sim_caload (C : mm_cx p s m args meth c D ca base b L xs sa M) (hk : mm_ce M (pc, .caload, len, inf, cst) = true) (rl : mm_rl s D ca base b L xs sa M ad0 μ0 lo st μ ad H ls locs cells slots) (h : mm_s (pc, .caload, len, inf, cst) mm_fin lo st μ = some (lo', st', μ')) (kk : ∀ (ad' : Nat → Nat → Nat) (H' : Heap) (ls' : Array Slot) (locs' : List Loc) (cells' slots' : Nat), mm_rl s D ca base b L xs sa M ad0 μ0 lo' st' μ' ad' H' ls' locs' cells' slots' → W p l e R s m args below meth c H' locs' cells' slots' Q (F0 m (pc + len) ls' (st'.map (mm_tr ad')))) : W p l e R s m args below meth c H locs cells slots Q (F0 m pc ls (st.map (mm_tr ad))) := by
  obtain ⟨hx, hb, hml, hown, hts, hK, hnm, hbs, hX, hbb, hnw, hsx, hlk⟩ := id C
  simp only [mm_ce, Bool.and_eq_true, decide_eq_true_eq, beq_iff_eq] at hk
  obtain ⟨hd, rfl⟩ := hk
  simp only [mm_s, mm_ald] at h
  split at h
  · rename_i x k i r
    cases hrg : Nat.ble 210 k && Nat.blt k 220 with
    | false => rw [hrg] at h; cases h
    | true =>
    rw [hrg] at h
    obtain ⟨hk1, hk2⟩ := mm_range hrg
    dsimp only [cond] at h
    obtain ⟨al, hal, hok, hP, hD, hr, hz, h9, h13s, hxs, hL⟩ := rl.1
    split at h
    · rename_i hin
      cases h
      have h199 : k ≠ 199 := by omega
      rw [mm_ln_ne h199] at hin
      have hi := mm_k20 (by omega) h199 (rl.2.1 _ (List.mem_cons_of_mem _ List.mem_cons_self))
      obtain ⟨q0, h0, he⟩ := mm_ws_at (cA := mm_ca ca) (ad := ad) (μ := μ) ((hal k i).mpr hi)
      rw [mm_ent_int (by omega) (by omega)] at he
      exact va_cald hx hb hK hP q0 2 he (mm_ca_char hk1 hk2) (mm_vpin hin) hd (kk ad H ls locs cells slots (mm_rl_push (v := .inl (μ.2 k i x.toInt.toNat)) (mm_rl_tail (mm_rl_tail rl)) trivial))
    · cases h
  · cases h

theorem sim_iastore (C : mm_cx p s m args meth c D ca base b L xs sa M) (hk : mm_ce M (pc, .iastore, len, inf, cst) = true) (rl : mm_rl s D ca base b L xs sa M ad0 μ0 lo st μ ad H ls locs cells slots) (h : mm_s (pc, .iastore, len, inf, cst) mm_fin lo st μ = some (lo', st', μ')) (kk : ∀ (ad' : Nat → Nat → Nat) (H' : Heap) (ls' : Array Slot) (locs' : List Loc) (cells' slots' : Nat), mm_rl s D ca base b L xs sa M ad0 μ0 lo' st' μ' ad' H' ls' locs' cells' slots' → W p l e R s m args below meth c H' locs' cells' slots' Q (F0 m (pc + len) ls' (st'.map (mm_tr ad')))) : W p l e R s m args below meth c H locs cells slots Q (F0 m pc ls (st.map (mm_tr ad))) := by
  obtain ⟨hx, hb, hml, hown, hts, hK, hnm, hbs, hX, hbb, hnw, hsx, hlk⟩ := id C
  simp only [mm_ce, Bool.and_eq_true, decide_eq_true_eq, beq_iff_eq] at hk
  obtain ⟨hd, rfl⟩ := hk
  simp only [mm_s, mm_ast] at h
  split at h
  · rename_i v x k i r
    cases hrg : Nat.ble 20 k && Nat.blt k 199 with
    | false => rw [hrg] at h; cases h
    | true =>
    rw [hrg] at h
    obtain ⟨hk1, hk2⟩ := mm_range hrg
    dsimp only [cond] at h
    obtain ⟨al, hal, hok, hP, hD, hr, hz, h9, h13s, hxs, hL⟩ := rl.1
    split at h
    · rename_i hin
      cases h
      have h199 : k ≠ 199 := by omega
      rw [mm_ln_ne h199] at hin
      have hi := mm_k20 (by omega) h199 (rl.2.1 _ (List.mem_cons_of_mem _ (List.mem_cons_of_mem _ List.mem_cons_self)))
      obtain ⟨q0, h0, he⟩ := mm_ws_at (cA := mm_ca ca) (ad := ad) (μ := μ) ((hal k i).mpr hi)
      rw [mm_ent_int (by omega) (by omega)] at he
      refine va_iast hx hb hK hP hD rl.2.2.2.2.1 q0 0 he (mm_ca_int (by omega)) (mm_vpin hin) hd (fun H1 locs1 hP1 hD1 hS1 => ?_)
      have e2 := mm_ws_set (μ' := (μ.1, mm_up μ.2 k i x.toInt.toNat v)) hD h0 (fun k' i' hh => mm_ent_up hh)
      rw [mm_ent_upA (by omega) (by omega)] at e2
      rw [show x.toNatClampNeg = x.toInt.toNat from rfl, e2] at hP1 hD1
      have rl2 := mm_rl_tail (mm_rl_tail (mm_rl_tail rl))
      exact kk ad H1 ls locs1 cells slots ⟨mm_hp_up hal hok hr hz h9 h13s hxs hL h199 hi hP1 hD1, rl2.2.1, rl2.2.2.1, rl2.2.2.2.1, hS1, rl2.2.2.2.2.2⟩
    · cases h
  · cases h

theorem sim_bastore (C : mm_cx p s m args meth c D ca base b L xs sa M) (hk : mm_ce M (pc, .bastore, len, inf, cst) = true) (rl : mm_rl s D ca base b L xs sa M ad0 μ0 lo st μ ad H ls locs cells slots) (h : mm_s (pc, .bastore, len, inf, cst) mm_fin lo st μ = some (lo', st', μ')) (kk : ∀ (ad' : Nat → Nat → Nat) (H' : Heap) (ls' : Array Slot) (locs' : List Loc) (cells' slots' : Nat), mm_rl s D ca base b L xs sa M ad0 μ0 lo' st' μ' ad' H' ls' locs' cells' slots' → W p l e R s m args below meth c H' locs' cells' slots' Q (F0 m (pc + len) ls' (st'.map (mm_tr ad')))) : W p l e R s m args below meth c H locs cells slots Q (F0 m pc ls (st.map (mm_tr ad))) := by
  obtain ⟨hx, hb, hml, hown, hts, hK, hnm, hbs, hX, hbb, hnw, hsx, hlk⟩ := id C
  simp only [mm_ce, Bool.and_eq_true, decide_eq_true_eq, beq_iff_eq] at hk
  obtain ⟨hd, rfl⟩ := hk
  simp only [mm_s, mm_ast] at h
  split at h
  · rename_i v x k i r
    cases hrg : Nat.ble 200 k && Nat.blt k 210 with
    | false => rw [hrg] at h; cases h
    | true =>
    rw [hrg] at h
    obtain ⟨hk1, hk2⟩ := mm_range hrg
    dsimp only [cond] at h
    obtain ⟨al, hal, hok, hP, hD, hr, hz, h9, h13s, hxs, hL⟩ := rl.1
    split at h
    · rename_i hin
      cases h
      have h199 : k ≠ 199 := by omega
      rw [mm_ln_ne h199] at hin
      have hi := mm_k20 (by omega) h199 (rl.2.1 _ (List.mem_cons_of_mem _ (List.mem_cons_of_mem _ List.mem_cons_self)))
      obtain ⟨q0, h0, he⟩ := mm_ws_at (cA := mm_ca ca) (ad := ad) (μ := μ) ((hal k i).mpr hi)
      rw [mm_ent_int (by omega) (by omega)] at he
      refine va_zast hx hb hK hP hD rl.2.2.2.2.1 q0 1 he (mm_ca_bool hk1 hk2) (mm_vpin hin) hd (fun H1 locs1 hP1 hD1 hS1 => ?_)
      have e2 := mm_ws_set (μ' := (μ.1, mm_up μ.2 k i x.toInt.toNat (v &&& 1))) hD h0 (fun k' i' hh => mm_ent_up hh)
      rw [mm_ent_upA (by omega) (by omega)] at e2
      rw [show vp_nar .boolean v = v &&& 1 from rfl, show x.toNatClampNeg = x.toInt.toNat from rfl, e2] at hP1 hD1
      have rl2 := mm_rl_tail (mm_rl_tail (mm_rl_tail rl))
      exact kk ad H1 ls locs1 cells slots ⟨mm_hp_up hal hok hr hz h9 h13s hxs hL h199 hi hP1 hD1, rl2.2.1, rl2.2.2.1, rl2.2.2.2.1, hS1, rl2.2.2.2.2.2⟩
    · cases h
  · cases h

theorem sim_castore (C : mm_cx p s m args meth c D ca base b L xs sa M) (hk : mm_ce M (pc, .castore, len, inf, cst) = true) (rl : mm_rl s D ca base b L xs sa M ad0 μ0 lo st μ ad H ls locs cells slots) (h : mm_s (pc, .castore, len, inf, cst) mm_fin lo st μ = some (lo', st', μ')) (kk : ∀ (ad' : Nat → Nat → Nat) (H' : Heap) (ls' : Array Slot) (locs' : List Loc) (cells' slots' : Nat), mm_rl s D ca base b L xs sa M ad0 μ0 lo' st' μ' ad' H' ls' locs' cells' slots' → W p l e R s m args below meth c H' locs' cells' slots' Q (F0 m (pc + len) ls' (st'.map (mm_tr ad')))) : W p l e R s m args below meth c H locs cells slots Q (F0 m pc ls (st.map (mm_tr ad))) := by
  obtain ⟨hx, hb, hml, hown, hts, hK, hnm, hbs, hX, hbb, hnw, hsx, hlk⟩ := id C
  simp only [mm_ce, Bool.and_eq_true, decide_eq_true_eq, beq_iff_eq] at hk
  obtain ⟨hd, rfl⟩ := hk
  simp only [mm_s, mm_ast] at h
  split at h
  · rename_i v x k i r
    cases hrg : Nat.ble 210 k && Nat.blt k 220 with
    | false => rw [hrg] at h; cases h
    | true =>
    rw [hrg] at h
    obtain ⟨hk1, hk2⟩ := mm_range hrg
    dsimp only [cond] at h
    obtain ⟨al, hal, hok, hP, hD, hr, hz, h9, h13s, hxs, hL⟩ := rl.1
    split at h
    · rename_i hin
      cases h
      have h199 : k ≠ 199 := by omega
      rw [mm_ln_ne h199] at hin
      have hi := mm_k20 (by omega) h199 (rl.2.1 _ (List.mem_cons_of_mem _ (List.mem_cons_of_mem _ List.mem_cons_self)))
      obtain ⟨q0, h0, he⟩ := mm_ws_at (cA := mm_ca ca) (ad := ad) (μ := μ) ((hal k i).mpr hi)
      rw [mm_ent_int (by omega) (by omega)] at he
      refine va_cast hx hb hK hP hD rl.2.2.2.2.1 q0 2 he (mm_ca_char hk1 hk2) (mm_vpin hin) hd (fun H1 locs1 hP1 hD1 hS1 => ?_)
      have e2 := mm_ws_set (μ' := (μ.1, mm_up μ.2 k i x.toInt.toNat v.toUInt32.toUInt16.toUInt32.toInt32)) hD h0 (fun k' i' hh => mm_ent_up hh)
      rw [mm_ent_upA (by omega) (by omega)] at e2
      rw [show vp_nar .char v = v.toUInt32.toUInt16.toUInt32.toInt32 from rfl, show x.toNatClampNeg = x.toInt.toNat from rfl, e2] at hP1 hD1
      have rl2 := mm_rl_tail (mm_rl_tail (mm_rl_tail rl))
      exact kk ad H1 ls locs1 cells slots ⟨mm_hp_up hal hok hr hz h9 h13s hxs hL h199 hi hP1 hD1, rl2.2.1, rl2.2.2.1, rl2.2.2.2.1, hS1, rl2.2.2.2.2.2⟩
    · cases h
  · cases h

theorem sim_aaload (C : mm_cx p s m args meth c D ca base b L xs sa M) (hk : mm_ce M (pc, .aaload, len, inf, cst) = true) (rl : mm_rl s D ca base b L xs sa M ad0 μ0 lo st μ ad H ls locs cells slots) (h : mm_s (pc, .aaload, len, inf, cst) mm_fin lo st μ = some (lo', st', μ')) (kk : ∀ (ad' : Nat → Nat → Nat) (H' : Heap) (ls' : Array Slot) (locs' : List Loc) (cells' slots' : Nat), mm_rl s D ca base b L xs sa M ad0 μ0 lo' st' μ' ad' H' ls' locs' cells' slots' → W p l e R s m args below meth c H' locs' cells' slots' Q (F0 m (pc + len) ls' (st'.map (mm_tr ad')))) : W p l e R s m args below meth c H locs cells slots Q (F0 m pc ls (st.map (mm_tr ad))) := by
  obtain ⟨hx, hb, hml, hown, hts, hK, hnm, hbs, hX, hbb, hnw, hsx, hlk⟩ := id C
  simp only [mm_ce, Bool.and_eq_true, decide_eq_true_eq, beq_iff_eq] at hk
  obtain ⟨hd, rfl⟩ := hk
  simp only [mm_s] at h
  split at h
  · rename_i x k i r
    cases hrg : Nat.ble 300 k && Nat.blt k 304 with
    | false => rw [hrg] at h; cases h
    | true =>
    rw [hrg] at h
    obtain ⟨hk1, hk2⟩ := mm_range hrg
    dsimp only [cond] at h
    obtain ⟨al, hal, hok, hP, hD, hr, hz, h9, h13s, hxs, hL⟩ := rl.1
    split at h
    · rename_i hin
      have h199 : k ≠ 199 := by omega
      rw [mm_ln_ne h199] at hin
      have hi := mm_k20 (by omega) h199 (rl.2.1 _ (List.mem_cons_of_mem _ List.mem_cons_self))
      obtain ⟨q0, h0, he⟩ := mm_ws_at (cA := mm_ca ca) (ad := ad) (μ := μ) ((hal k i).mpr hi)
      rw [mm_ent_ref hk1] at he
      split at h
      · cases h
      · rename_i q hq
        cases h
        refine va_aldq hx hb hK hP q0 (k - 297) he (mm_ca_ref hk1 hk2) (mm_vpin hin) hd ?_
        have e : va_rf (mm_rr ad (mm_ek k) (μ.1.2.2.1 k i x.toNatClampNeg)) = .ref (ad (mm_ek k) q) := by
          rw [show x.toNatClampNeg = x.toInt.toNat from rfl, hq]; rfl
        rw [e]
        have hq2 := hr _ _ _ _ hi (by unfold mm_sj; rw [if_neg (by omega)]; omega) hq
        unfold mm_tg at hq2
        rw [if_neg (by omega)] at hq2
        exact kk ad H ls locs cells slots (mm_rl_push (v := .inr (mm_ek k, q)) (mm_rl_tail (mm_rl_tail rl)) (Or.inl hq2))
    · cases h
  · cases h

theorem sim_aastore (C : mm_cx p s m args meth c D ca base b L xs sa M) (hk : mm_ce M (pc, .aastore, len, inf, cst) = true) (rl : mm_rl s D ca base b L xs sa M ad0 μ0 lo st μ ad H ls locs cells slots) (h : mm_s (pc, .aastore, len, inf, cst) mm_fin lo st μ = some (lo', st', μ')) (kk : ∀ (ad' : Nat → Nat → Nat) (H' : Heap) (ls' : Array Slot) (locs' : List Loc) (cells' slots' : Nat), mm_rl s D ca base b L xs sa M ad0 μ0 lo' st' μ' ad' H' ls' locs' cells' slots' → W p l e R s m args below meth c H' locs' cells' slots' Q (F0 m (pc + len) ls' (st'.map (mm_tr ad')))) : W p l e R s m args below meth c H locs cells slots Q (F0 m pc ls (st.map (mm_tr ad))) := by
  obtain ⟨hx, hb, hml, hown, hts, hK, hnm, hbs, hX, hbb, hnw, hsx, hlk⟩ := id C
  simp only [mm_ce, Bool.and_eq_true, decide_eq_true_eq, beq_iff_eq] at hk
  obtain ⟨hd, rfl⟩ := hk
  simp only [mm_s] at h
  split at h
  · rename_i t q x k i r
    cases hrg : Nat.ble 300 k && Nat.blt k 304 && Nat.beq t (mm_ek k) with
    | false => rw [hrg] at h; cases h
    | true =>
    rw [hrg] at h
    rw [Bool.and_eq_true] at hrg
    obtain ⟨hrg, hte⟩ := hrg
    obtain ⟨hk1, hk2⟩ := mm_range hrg
    have hte := mm_beq hte
    subst hte
    dsimp only [cond] at h
    obtain ⟨al, hal, hok, hP, hD, hr, hz, h9, h13s, hxs, hL⟩ := rl.1
    split at h
    · rename_i hin
      cases h
      have h199 : k ≠ 199 := by omega
      rw [mm_ln_ne h199] at hin
      have hi := mm_k20 (by omega) h199 (rl.2.1 _ (List.mem_cons_of_mem _ (List.mem_cons_of_mem _ List.mem_cons_self)))
      have hek : mm_ek k < 13 := by rcases (show k = 300 ∨ k = 301 ∨ k = 302 ∨ k = 303 by omega) with rfl | rfl | rfl | rfl <;> decide
      have hq := mm_k13 hek (rl.2.1 _ List.mem_cons_self)
      obtain ⟨q0, h0, he⟩ := mm_ws_at (cA := mm_ca ca) (ad := ad) (μ := μ) ((hal k i).mpr hi)
      rw [mm_ent_ref hk1] at he
      obtain ⟨q1, h1, he1⟩ := mm_ws_at (cA := mm_ca ca) (ad := ad) (μ := μ) ((hal (mm_ek k) q).mpr hq)
      rw [mm_ent_obj (by omega)] at he1
      refine va_astq hx hb hK hP hD rl.2.2.2.2.1 q0 (k - 297) q1 (mm_ek k) he (r := (mm_cs (mm_ek k), mm_tf (mm_ek k), mm_nf (mm_ek k))) (mm_ca_ref hk1 hk2) he1 (mm_cl_at hek) (mm_vpin hin) hd (fun H1 locs1 hP1 hD1 hS1 => ?_)
      have e2 := mm_ws_set (μ' := mm_upr μ k i x.toInt.toNat (q + 1)) hD h0 (fun k' i' hh => mm_ent_upr hh)
      rw [mm_ent_uprA (by omega)] at e2
      rw [show x.toNatClampNeg = x.toInt.toNat from rfl, e2] at hP1 hD1
      have rl2 := mm_rl_tail (mm_rl_tail (mm_rl_tail rl))
      have hq2 : q < μ.1.1 (mm_tg k x.toInt.toNat) := by unfold mm_tg; rw [if_neg (by omega)]; exact hq
      exact kk ad H1 ls locs1 cells slots ⟨mm_hp_upr hal hok hr hz h9 h13s hxs hL hq2 hi hP1 hD1, rl2.2.1, rl2.2.2.1, rl2.2.2.2.1, hS1, rl2.2.2.2.2.2⟩
    · cases h
  · cases h

theorem sim_arraylength (C : mm_cx p s m args meth c D ca base b L xs sa M) (hk : mm_ce M (pc, .arraylength, len, inf, cst) = true) (rl : mm_rl s D ca base b L xs sa M ad0 μ0 lo st μ ad H ls locs cells slots) (h : mm_s (pc, .arraylength, len, inf, cst) mm_fin lo st μ = some (lo', st', μ')) (kk : ∀ (ad' : Nat → Nat → Nat) (H' : Heap) (ls' : Array Slot) (locs' : List Loc) (cells' slots' : Nat), mm_rl s D ca base b L xs sa M ad0 μ0 lo' st' μ' ad' H' ls' locs' cells' slots' → W p l e R s m args below meth c H' locs' cells' slots' Q (F0 m (pc + len) ls' (st'.map (mm_tr ad')))) : W p l e R s m args below meth c H locs cells slots Q (F0 m pc ls (st.map (mm_tr ad))) := by
  obtain ⟨hx, hb, hml, hown, hts, hK, hnm, hbs, hX, hbb, hnw, hsx, hlk⟩ := id C
  simp only [mm_ce, Bool.and_eq_true, decide_eq_true_eq, beq_iff_eq] at hk
  obtain ⟨hd, rfl⟩ := hk
  simp only [mm_s] at h
  split at h
  · rename_i k i r
    cases hrg : Nat.ble 20 k && Nat.blt k 200 with
    | false => rw [hrg] at h; cases h
    | true =>
    rw [hrg] at h
    obtain ⟨hk1, hk2⟩ := mm_range hrg
    cases h
    obtain ⟨al, hal, hok, hP, hD, hr, hz, h9, h13s, hxs, hL⟩ := rl.1
    by_cases h199 : k = 199
    · subst h199
      have hi : i = 0 := by
        rcases rl.2.1 _ List.mem_cons_self with hh | ⟨-, hh⟩ | ⟨hh, -⟩
        · have := mm_n199 rl.1; dsimp only at hh; omega
        · exact hh
        · dsimp only at hh; omega
      subst hi
      have := kk ad H ls locs cells slots (mm_rl_push (v := .inl (Int32.ofNat (mm_ln μ 199 0))) (mm_rl_tail rl) trivial)
      rw [mm_ln_199, hL, Int.toNat_natCast] at this
      show W p l e R s m args below meth c H locs cells slots Q (F0 m pc ls (.ref (ad 199 0) :: r.map (mm_tr ad)))
      rw [h9]
      exact va_slen hx hb hX (Nat.lt_of_lt_of_le hbb hbs) (Nat.not_le.mpr hbb) rl.2.2.2.2.1 hd this
    · have hi := mm_k20 hk1 h199 (rl.2.1 _ List.mem_cons_self)
      obtain ⟨q0, h0, he⟩ := mm_ws_at (cA := mm_ca ca) (ad := ad) (μ := μ) ((hal k i).mpr hi)
      rw [mm_ent_int hk1 (by omega)] at he
      have := kk ad H ls locs cells slots (mm_rl_push (v := .inl (Int32.ofNat (mm_ln μ k i))) (mm_rl_tail rl) trivial)
      rw [mm_ln_ne h199] at this
      exact va_alen hx hb hK hP q0 0 he (mm_ca_int hk2) rfl hd this
  · cases h

end SIM
