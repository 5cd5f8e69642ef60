section SIM
variable {p : Program} {l : Launch} {e : Env} {R : Room} {s : State} {m : MethodId} {args : Array Value} {below : List Frame} {meth : Method} {c : Code} {Q : State → Prop}
variable {D : va_G} {ca : Nat → ClassId} {base b L : Nat} {xs : Nat → Int32} {sa : Nat → Nat} {M : Nat} {ad0 : Nat → Nat → Nat} {μ0 : mm_M}
variable {lo lo' : mm_L} {st st' : List mm_V} {μ μ' : mm_M} {ad : Nat → Nat → Nat} {H : Heap} {ls : Array Slot} {locs : List Loc} {cells slots : Nat}
variable {pc len : Nat} {inf : Nat × Nat × Nat} {cst : Int32}

theorem mm_k13 {n : Nat → Nat} {k i : Nat} (hk : k < 13) (h : mm_vd n (.inr (k, i))) : i < n k := by
  rcases h with h | ⟨h, -⟩ | ⟨h, -⟩
  · exact h
  · dsimp only at h; omega
  · dsimp only at h; omega
theorem mm_k20 {n : Nat → Nat} {k i : Nat} (hk : 20 ≤ k) (hk2 : k ≠ 199) (h : mm_vd n (.inr (k, i))) : i < n k := by
  rcases h with h | ⟨h, -⟩ | ⟨h, -⟩
  · exact h
  · exact absurd h hk2
  · dsimp only at h; omega
theorem mm_ent_obj {cA : Nat → ClassId} {k i : Nat} (hk : k < 20) : mm_ent cA ad μ k i = .inr (k, mm_fs ad μ k i) := if_pos hk
theorem mm_ent_int {cA : Nat → ClassId} {k i : Nat} (hk : 20 ≤ k) (hk2 : k < 300) : mm_ent cA ad μ k i = .inl (cA k, μ.1.2.1 k i, .inl (μ.2 k i)) := by
  unfold mm_ent; rw [if_neg (by omega), if_pos hk2]
theorem mm_ent_ref {cA : Nat → ClassId} {k i : Nat} (hk : 300 ≤ k) : mm_ent cA ad μ k i = .inl (cA k, μ.1.2.1 k i, .inr (.inr (.inr (.inr (fun j => mm_rr ad (mm_ek k) (μ.1.2.2.1 k i j)))))) := by
  unfold mm_ent; rw [if_neg (by omega), if_neg (by omega)]
theorem mm_beq {a b : Nat} (h : Nat.beq a b = true) : a = b := Nat.eq_of_beq_eq_true h
/-- an int place is written -/
theorem mm_hp_up {al : List (Nat × Nat)} {H1 : Heap} {k i j : Nat} {x : Int32} (hal : ∀ k i, (k, i) ∈ al ↔ i < μ.1.1 k) (hok : ∀ q ∈ al, mm_kok q.1 = true) (hr : mm_hr μ) (hz : mm_hz μ) (h9 : ad 199 0 = b) (h13 : ∀ i, i < 8 → ad 13 i = sa i) (hxs : ∀ j, j < L → μ.2 199 0 j = xs j) (hL : (μ.2 199 1 0).toInt = L)
    (hk : k ≠ 199) (hi : i < μ.1.1 k) (hP : va_P D mm_cl (mm_ws (mm_ca ca) ad (μ.1, mm_up μ.2 k i j x) al) H1) (hD : va_D (fun q => base ≤ q) (mm_ws (mm_ca ca) ad (μ.1, mm_up μ.2 k i j x) al)) : mm_hp D ca base b L xs sa ad (μ.1, mm_up μ.2 k i j x) H1 := by
  refine ⟨al, hal, hok, hP, hD, hr, fun hc => ⟨(hz hc).1, fun k' i' j' h1 h2 => ⟨?_, ((hz hc).2 k' i' j' h1 h2).2⟩⟩, h9, h13, fun j' h1 => ?_, ?_⟩
  · show mm_up μ.2 k i j x k' i' j' = 0
    rw [mm_up_off (fun z => by rw [z.1, z.2] at h1; exact absurd hi (Nat.not_lt.mpr h1))]
    exact ((hz hc).2 k' i' j' h1 h2).1
  · show mm_up μ.2 k i j x 199 0 j' = _
    rw [mm_up_off (fun z => hk z.1.symm)]
    exact hxs j' h1
  · show (mm_up μ.2 k i j x 199 1 0).toInt = _
    rw [mm_up_off (fun z => hk z.1.symm)]
    exact hL
/-- a reference place is written -/
theorem mm_hp_upr {al : List (Nat × Nat)} {H1 : Heap} {k i j q : Nat} (hal : ∀ k i, (k, i) ∈ al ↔ i < μ.1.1 k) (hok : ∀ q ∈ al, mm_kok q.1 = true) (hr : mm_hr μ) (hz : mm_hz μ) (h9 : ad 199 0 = b) (h13 : ∀ i, i < 8 → ad 13 i = sa i) (hxs : ∀ j, j < L → μ.2 199 0 j = xs j) (hL : (μ.2 199 1 0).toInt = L)
    (hq : q < μ.1.1 (mm_tg k j)) (hi : i < μ.1.1 k) (hP : va_P D mm_cl (mm_ws (mm_ca ca) ad (mm_upr μ k i j (q + 1)) al) H1) (hD : va_D (fun q => base ≤ q) (mm_ws (mm_ca ca) ad (mm_upr μ k i j (q + 1)) al)) : mm_hp D ca base b L xs sa ad (mm_upr μ k i j (q + 1)) H1 := by
  have key : ∀ k' i' j' z, (mm_upr μ k i j (q + 1)).1.2.2.1 k' i' j' = z + 1 → (k' = k ∧ i' = i ∧ j' = j ∧ z = q) ∨ μ.1.2.2.1 k' i' j' = z + 1 := by
    intro k' i' j' z hzz
    have e : (if k' = k ∧ i' = i ∧ j' = j then q + 1 else μ.1.2.2.1 k' i' j') = z + 1 := hzz
    by_cases h : k' = k ∧ i' = i ∧ j' = j
    · rw [if_pos h] at e
      exact Or.inl ⟨h.1, h.2.1, h.2.2, by omega⟩
    · rw [if_neg h] at e
      exact Or.inr e
  refine ⟨al, hal, hok, hP, hD, fun k' i' j' z g1 g2 hzz => ?_, fun hc => ⟨fun k' i' j' z hzz => ?_, fun k' i' j' h1 h2 => ⟨((hz hc).2 k' i' j' h1 h2).1, ?_⟩⟩, h9, h13, hxs, hL⟩
  · rcases key k' i' j' z hzz with ⟨rfl, rfl, rfl, rfl⟩ | h
    · exact hq
    · exact hr k' i' j' z g1 g2 h
  · rcases key k' i' j' z hzz with ⟨rfl, rfl, rfl, rfl⟩ | h
    · exact hq
    · exact (hz hc).1 k' i' j' z h
  · show (if k' = k ∧ i' = i ∧ j' = j then q + 1 else μ.1.2.2.1 k' i' j') = 0
    rw [if_neg (fun z => by rw [z.1, z.2.1] at h1; exact absurd hi (Nat.not_lt.mpr h1))]
    exact ((hz hc).2 k' i' j' h1 h2).2
theorem mm_decl {k j : Nat} (hk : k < 13) (hj : j < mm_nf k) : (mm_tf k j).1 = mm_cs k := by
  have h : ((List.range 13).all fun k => (List.range (mm_nf k)).all fun j => decide ((mm_tf k j).1 = mm_cs k)) = true := by decide +kernel
  exact of_decide_eq_true (mm_all (mm_all h (List.mem_range.mpr hk)) (List.mem_range.mpr hj))
theorem mm_refty {k j a : Nat} (hk : k < 13) (hj : j < mm_nf k) (ht : mm_ftj k j ≠ 0) : narrow (mm_ty k j) (.ref a) = .ref a ∧ fits (mm_ty k j) (.ref a) = true := by
  have h : ((List.range 13).all fun k => (List.range (mm_nf k)).all fun j => Nat.beq (mm_ftj k j) 0 || (match mm_ty k j with | .object _ => true | .array _ => true | _ => false)) = true := by decide +kernel
  have h1 := mm_all (mm_all h (List.mem_range.mpr hk)) (List.mem_range.mpr hj)
  cases hb : Nat.beq (mm_ftj k j) 0 with
  | true => exact absurd (mm_beq hb) ht
  | false =>
    rw [hb, Bool.false_or] at h1
    cases hty : mm_ty k j <;> rw [hty] at h1 <;> first | (exact ⟨rfl, rfl⟩) | cases h1
theorem mm_bool {v : Int32} (h : v &&& 1 = v) : v = 0 ∨ v = 1 := by
  have h1 := pk_and v (m := 1) 1 rfl
  rw [h] at h1
  rcases Nat.mod_two_eq_zero_or_one v.toBitVec.toNat with e | e
  · left; rw [h1, show (2 : Nat) ^ 1 = 2 from rfl, e]; rfl
  · right; rw [h1, show (2 : Nat) ^ 1 = 2 from rfl, e]; rfl

theorem sim_getfield {idx : Nat} (C : mm_cx p s m args meth c D ca base b L xs sa M) (hk : mm_ce M (pc, .getfield idx, len, inf, cst) = true) (rl : mm_rl s D ca base b L xs sa M ad0 μ0 lo st μ ad H ls locs cells slots) (h : mm_s (pc, .getfield idx, len, inf, cst) mm_fin lo st μ = some (lo', st', μ')) (kk : ∀ (ad' : Nat → Nat → Nat) (H' : Heap) (ls' : Array Slot) (locs' : List Loc) (cells' slots' : Nat), mm_rl s D ca base b L xs sa M ad0 μ0 lo' st' μ' ad' H' ls' locs' cells' slots' → W p l e R s m args below meth c H' locs' cells' slots' Q (F0 m (pc + len) ls' (st'.map (mm_tr ad')))) : W p l e R s m args below meth c H locs cells slots Q (F0 m pc ls (st.map (mm_tr ad))) := by
  obtain ⟨hx, hb, hml, hown, hts, hK, hnm, hbs, hX, hbb, hnw, hsx, hlk⟩ := id C
  simp only [mm_ce, Bool.and_eq_true, decide_eq_true_eq, beq_iff_eq] at hk
  obtain ⟨hd, ⟨⟨⟨rfl, h13⟩, hj⟩, hft⟩, hlk2⟩ := hk
  simp only [mm_s] at h
  split at h
  · rename_i k i r
    cases hkk : Nat.beq k inf.1 with
    | false => rw [hkk] at h; cases h
    | true =>
    rw [hkk] at h
    have hke := mm_beq hkk
    subst hke
    obtain ⟨al, hal, hok, hP, hD, hr, hz, h9, h13s, hxs, hL⟩ := rl.1
    have hi := mm_k13 h13 (rl.2.1 _ List.mem_cons_self)
    obtain ⟨q0, h0, he⟩ := mm_ws_at (cA := mm_ca ca) (ad := ad) (μ := μ) ((hal inf.1 i).mpr hi)
    rw [mm_ent_obj (by omega)] at he
    refine va_get hx hb hts (mm_cl_ws h13) hown hK hP q0 he (mm_cl_at h13) inf.2.1 hj (hts _ (mm_hasf_ok hlk2)) (fun _ h => h) (mm_fs_at hj) hd ?_
    dsimp only [cond] at h
    split at h
    · rename_i ht
      cases h
      have e : mm_fv ad μ inf.1 i inf.2.1 = .int (μ.2 inf.1 i inf.2.1) := by unfold mm_fv; rw [hft, ht]
      rw [e]
      exact kk _ _ _ _ _ _ (mm_rl_push (mm_rl_tail rl) trivial)
    · rename_i t ht
      split at h
      · cases h
      · rename_i q hq
        cases h
        have e : mm_fv ad μ inf.1 i inf.2.1 = .ref (ad t q) := by unfold mm_fv; rw [hft, ht]; simp only [hq]; rfl
        rw [e]
        have hq2 := hr _ _ _ _ hi (by unfold mm_sj; rw [if_pos (by omega)]; exact hj) hq
        unfold mm_tg at hq2
        rw [if_pos (by omega), hft, ht] at hq2
        exact kk _ _ _ _ _ _ (mm_rl_push (v := .inr (t, q)) (mm_rl_tail rl) (Or.inl hq2))
  · cases h

theorem mm_put {ow idx k i j : Nat} {v : Value} {rest : List Value} {al : List (Nat × Nat)} {q0 : Nat} (C : mm_cx p s m args meth c D ca base b L xs sa M) (how : mm_mo M = ow) (hf : (mm_tf k j).2.2.2 = true → (mm_my M).name = "<init>" ∧ ow = k) (h13 : k < 13) (hj : j < mm_nf k) (hlk2 : mm_hasf ow idx k j = true) (hd : decode (mm_mc M) pc = .ok (.putfield idx, 3)) (hP : va_P D mm_cl (mm_ws (mm_ca ca) ad μ al) H) (hD : va_D (fun q => base ≤ q) (mm_ws (mm_ca ca) ad μ al)) (hS : va_S (fun q => base ≤ q) s.heap H locs) (he : (mm_ws (mm_ca ca) ad μ al)[q0]? = some (ad k i, .inr (k, mm_fs ad μ k i))) (hn : narrow (mm_ty k j) v = v) (hfit : fits (mm_ty k j) v = true)
    (kk : ∀ (H1 : Heap) (locs1 : List Loc), va_P D mm_cl ((mm_ws (mm_ca ca) ad μ al).set q0 (ad k i, .inr (k, (mm_fs ad μ k i).set j v))) H1 → va_D (fun q => base ≤ q) ((mm_ws (mm_ca ca) ad μ al).set q0 (ad k i, .inr (k, (mm_fs ad μ k i).set j v))) → va_S (fun q => base ≤ q) s.heap H1 locs1 → W p l e R s m args below meth c H1 locs1 cells slots Q (F0 m (pc + 3) ls rest)) : W p l e R s m args below meth c H locs cells slots Q (F0 m pc ls (v :: .ref (ad k i) :: rest)) := by
  obtain ⟨hx, hb, hml, hown, hts, hK, hnm, hbs, hX, hbb, hnw, hsx, hlk⟩ := id C
  subst how
  have hlen : j < (mm_fs ad μ k i).length := by unfold mm_fs; rw [List.length_map, List.length_range]; exact hj
  cases hfl : (mm_tf k j).2.2.2 with
  | false => exact va_put hx hb hts (mm_cl_ws h13) (mm_ty k) (mm_cl_ty h13) (mm_cl_nm h13) hown hK hP hD hS q0 he (mm_cl_at h13) j hj (hts _ (mm_hasf_ok hlk2)) (fun _ h => h) hfl (mm_cl_ty h13 j hj) hn hfit hlen hd kk
  | true =>
    obtain ⟨f1, f2⟩ := hf hfl
    exact va_putF hx hb hts (mm_cl_ws h13) (mm_ty k) (mm_cl_ty h13) (mm_cl_nm h13) hown hK hP hD hS q0 he (mm_cl_at h13) j hj (hts _ (mm_hasf_ok hlk2)) (fun _ h => h) hfl (hnm.trans f1) (by rw [f2]; exact mm_decl h13 hj) (mm_cl_ty h13 j hj) hn hfit hlen hd kk

theorem sim_putfield {idx : Nat} (C : mm_cx p s m args meth c D ca base b L xs sa M) (hk : mm_ce M (pc, .putfield idx, len, inf, cst) = true) (rl : mm_rl s D ca base b L xs sa M ad0 μ0 lo st μ ad H ls locs cells slots) (h : mm_s (pc, .putfield idx, len, inf, cst) mm_fin lo st μ = some (lo', st', μ')) (kk : ∀ (ad' : Nat → Nat → Nat) (H' : Heap) (ls' : Array Slot) (locs' : List Loc) (cells' slots' : Nat), mm_rl s D ca base b L xs sa M ad0 μ0 lo' st' μ' ad' H' ls' locs' cells' slots' → W p l e R s m args below meth c H' locs' cells' slots' Q (F0 m (pc + len) ls' (st'.map (mm_tr ad')))) : W p l e R s m args below meth c H locs cells slots Q (F0 m pc ls (st.map (mm_tr ad))) := by
  obtain ⟨hx, hb, hml, hown, hts, hK, hnm, hbs, hX, hbb, hnw, hsx, hlk⟩ := id C
  simp only [mm_ce, Bool.and_eq_true, decide_eq_true_eq, beq_iff_eq] at hk
  obtain ⟨hd, ⟨⟨⟨⟨rfl, h13⟩, hj⟩, hlk2⟩, hft⟩, hfin⟩ := hk
  have hf : (mm_tf inf.1 inf.2.1).2.2.2 = true → (mm_my M).name = "<init>" ∧ mm_mo M = inf.1 := by
    intro hh
    rw [hh] at hfin
    simpa using hfin
  simp only [mm_s] at h
  split at h
  · rename_i v k i r
    cases hkk : Nat.beq k inf.1 with
    | false => rw [hkk] at h; cases h
    | true =>
    rw [hkk] at h
    have hke := mm_beq hkk
    subst hke
    obtain ⟨al, hal, hok, hP, hD, hr, hz, h9, h13s, hxs, hL⟩ := rl.1
    have hi := mm_k13 h13 (rl.2.1 _ (List.mem_cons_of_mem _ List.mem_cons_self))
    obtain ⟨q0, h0, he⟩ := mm_ws_at (cA := mm_ca ca) (ad := ad) (μ := μ) ((hal inf.1 i).mpr hi)
    rw [mm_ent_obj (by omega)] at he
    dsimp only [cond] at h
    have fin : ∀ (hty : mm_ftj inf.1 inf.2.1 = 0) (hn : narrow (mm_ty inf.1 inf.2.1) (.int v) = .int v) (hfit : fits (mm_ty inf.1 inf.2.1) (.int v) = true) (kk : ∀ (ad' : Nat → Nat → Nat) (H' : Heap) (ls' : Array Slot) (locs' : List Loc) (cells' slots' : Nat), mm_rl s D ca base b L xs sa M ad0 μ0 lo r (μ.1, mm_up μ.2 inf.1 i inf.2.1 v) ad' H' ls' locs' cells' slots' → W p l e R s m args below meth c H' locs' cells' slots' Q (F0 m (pc + 3) ls' (r.map (mm_tr ad')))), W p l e R s m args below meth c H locs cells slots Q (F0 m pc ls ((Sum.inl v :: Sum.inr (inf.1, i) :: r).map (mm_tr ad))) := by
      intro hty hn hfit kk
      refine mm_put (k := inf.1) (i := i) (j := inf.2.1) (v := .int v) C rfl hf h13 hj hlk2 hd hP hD rl.2.2.2.2.1 he hn hfit (fun H1 locs1 hP1 hD1 hS1 => ?_)
      have e := mm_ws_set (μ' := (μ.1, mm_up μ.2 inf.1 i inf.2.1 v)) hD h0 (fun k' i' hh => mm_ent_up hh)
      rw [mm_ent_upF (by omega) hty] at e
      rw [e] at hP1 hD1
      have rl2 := mm_rl_tail (mm_rl_tail rl)
      exact kk ad H1 ls locs1 cells slots ⟨mm_hp_up hal hok hr hz h9 h13s hxs hL (by omega) hi hP1 hD1, rl2.2.1, rl2.2.2.1, rl2.2.2.2.1, hS1, rl2.2.2.2.2.2⟩
    split at h
    · rename_i ht
      cases h
      rw [ht] at hft
      simp only [Nat.ble, cond, Bool.and_eq_true, beq_iff_eq, decide_eq_true_eq] at hft
      have hty : mm_ty inf.1 inf.2.1 = .int := by simpa using hft.2
      exact fin hft.1 (by rw [hty]; rfl) (by rw [hty]; rfl) kk
    · rename_i ht
      split at h
      · rename_i hv
        cases h
        rw [ht] at hft
        simp only [Nat.ble, cond, Bool.and_eq_true, beq_iff_eq, decide_eq_true_eq] at hft
        have hty : mm_ty inf.1 inf.2.1 = .boolean := by simpa using hft.2
        exact fin hft.1 (by rw [hty]; show Value.int (v &&& 1) = _; rw [hv]) (by rw [hty]; rcases mm_bool hv with e | e <;> rw [e] <;> rfl) kk
      · cases h
    · cases h
  · rename_i t q k i r
    cases hkk : Nat.beq k inf.1 && Nat.beq (t + 2) inf.2.2 with
    | false => rw [hkk] at h; cases h
    | true =>
    rw [hkk] at h
    simp only [Bool.and_eq_true] at hkk
    obtain ⟨hkk, htt⟩ := hkk
    have hte := mm_beq htt
    have hke := mm_beq hkk
    subst hke
    obtain ⟨al, hal, hok, hP, hD, hr, hz, h9, h13s, hxs, hL⟩ := rl.1
    have hi := mm_k13 h13 (rl.2.1 _ (List.mem_cons_of_mem _ List.mem_cons_self))
    obtain ⟨q0, h0, he⟩ := mm_ws_at (cA := mm_ca ca) (ad := ad) (μ := μ) ((hal inf.1 i).mpr hi)
    rw [mm_ent_obj (by omega)] at he
    cases h
    rw [← hte] at hft
    simp only [Nat.ble, cond, Bool.and_eq_true, beq_iff_eq, decide_eq_true_eq] at hft
    obtain ⟨hty, hne⟩ := hft
    have hty : mm_ftj inf.1 inf.2.1 = t + 1 := by omega
    have hq : q < μ.1.1 t := by
      rcases rl.2.1 _ List.mem_cons_self with hh | ⟨hh, -⟩ | ⟨hh, -⟩
      · exact hh
      · dsimp only at hh; omega
      · dsimp only at hh; omega
    have hfo : narrow (mm_ty inf.1 inf.2.1) (.ref (ad t q)) = .ref (ad t q) ∧ fits (mm_ty inf.1 inf.2.1) (.ref (ad t q)) = true := mm_refty h13 hj (by rw [hty]; omega)
    refine mm_put (k := inf.1) (i := i) (j := inf.2.1) (v := .ref (ad t q)) C rfl hf h13 hj hlk2 hd hP hD rl.2.2.2.2.1 he hfo.1 hfo.2 (fun H1 locs1 hP1 hD1 hS1 => ?_)
    have e := mm_ws_set (μ' := mm_upr μ inf.1 i inf.2.1 (q + 1)) hD h0 (fun k' i' hh => mm_ent_upr hh)
    rw [mm_ent_uprF (by omega) hty] at e
    rw [e] at hP1 hD1
    have rl2 := mm_rl_tail (mm_rl_tail rl)
    have hq2 : q < μ.1.1 (mm_tg inf.1 inf.2.1) := by unfold mm_tg; rw [if_pos (by omega), hty]; exact hq
    exact kk ad H1 ls locs1 cells slots ⟨mm_hp_upr hal hok hr hz h9 h13s hxs hL hq2 hi hP1 hD1, rl2.2.1, rl2.2.2.1, rl2.2.2.2.1, hS1, rl2.2.2.2.2.2⟩
  · cases h

end SIM
