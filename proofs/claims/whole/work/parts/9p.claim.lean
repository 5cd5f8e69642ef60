/-! THE CLAIM OUT OF ONE WALK OF THE LAW'S BODY. Your part is whole_start (and what it stands on); all else here is the same for every law, but numbers. -/
def R_law : String := "HillPathsLaw"
def lw_P (b : Addr) (xs : List Int32) (args : Array Value) (s : State) : Prop := args = #[.ref b] ∧ s.IntsAt b xs ∧ xs.length ≤ 384 ∧ (Jvm.Cond.and given_1 narrow_1).before args s = true
def lw_Q (_ : Array Value) (s : State) (o : Outcome) (t : State) : Prop := o = .returned (some (.int 1)) ∧ Framed s o t [] 600000 7302250
def lw_Z (below : List Frame) (a : Array Value) (s : State) : State → Prop := fun t => ∃ o, t.status = .running ∧ Ended t below o ∧ lw_Q a s o t
/-- the law's own end, with 1 on the stack, nothing written that was there before, its room as the claim has it -/
theorem lw_ret {p : Program} {l : Launch} {e : Env} {s : State} {m : MethodId} {below : List Frame} {meth : Method} {c : Code} {b : Nat} {v : Int32} (hv1 : v &&& 1 = 1) (hx : p.tables.exec = Jvm.exec) (hb : c.code = code) (hr : meth.sig.returnType = ret) (hlocks : meth.locks = false) {pc : Nat} {H : Heap} {ls : Array Slot} (hdg : decode code pc = .ok (.ireturn, 1)) : W p l e room_1 s m #[Value.ref b] below meth c H [] 600000 7302250 (lw_Z below #[Value.ref b] s) (F0 m pc ls [.int v]) := by
  intro T hT X
  obtain ⟨fs, hret, hrun, hended, hW, hframe⟩ := X.leave (v := some (.int 1)) (hlocks := hlocks) (fun h => by rw [hr] at h; cases h)
  have hmeth' : T.vm.method? m = some meth := X.method'
  refine ⟨T.setFrames fs, ?_, .returned (some (.int 1)), hrun, hended, rfl, ⟨_, rfl⟩, hW, hframe⟩
  jvm_step X.here [X.here.top, hx, hb, hdg, hmeth', hr, ret, narrow, hv1]
  (try refine ⟨rfl, ?_⟩); (try refine ⟨rfl, ?_⟩)
  first | (intro acts; rw [hret _ acts rfl rfl rfl]) | rw [hret _ _ rfl rfl rfl]
  exact Steps.refl _
/-- what holds at the law's entry: the machine, the code, the tables' words (any of lw_tbl by 'hts w (by decide +kernel)'), the script of L ints xs at the cell b, what the Statement gives of the start (any of its parts by flat_of_before) -/
def lw_At (p : Program) (s : State) (m : MethodId) (meth : Method) (c : Code) (b L : Nat) (xs : Nat → Int32) : Prop :=
  p.tables.exec = Jvm.exec ∧ c.code = code ∧ meth.sig.returnType = ret ∧ c.maxLocals = 4 ∧ s.vm.findClass R_law = some m.cls ∧ (∀ w ∈ lw_tbl, w.before #[Value.ref b] s = true) ∧ va_X b L xs s s.heap ∧ b < s.heap.size ∧ meth.locks = false ∧ (Jvm.Cond.and given_1 narrow_1).before #[Value.ref b] s = true ∧ meth.name = "law"
theorem ov_199 (X : Nat → Nat → Int32) (μ : mm_M) (i j : Nat) : (ovM X μ).2 199 i j = X i j := by
  show (if 199 = 199 then X i j else μ.2 199 i j) = X i j
  rw [if_pos rfl]
set_option maxHeartbeats 4000000 in
theorem whole_start {p : Program} {e : Env} {s : State} {m : MethodId} {below : List Frame} {meth : Method} {c : Code} (l : Launch) {b L : Nat} {xs : Nat → Int32} (hL : L ≤ 384) (C0 : lw_At p s m meth c b L xs) : W p l e room_1 s m #[Value.ref b] below meth c s.heap [] 0 0 (lw_Z below #[Value.ref b] s) (entryFrame m ([Value.ref b] : List Value).toArray 4) := by
  obtain ⟨hx, hb, hr, hml, hown, hts, hX, hbl, hlocks, hgv, hnm⟩ := id C0
  obtain ⟨sa, hsx⟩ := sx_at hts hgv
  obtain ⟨D, ca, hK⟩ := K_at hts
  have C : mm_cx p s m #[Value.ref b] meth c D ca s.heap.size b L xs sa 246 := ⟨hx, hb, hml, hown, fun w hw => hts w (big_in hw), hK, hnm, Nat.le_refl _, hX, hbl, nw_at hts, hsx, hlocks⟩
  have IH := mm_met mm_str mm_chk l 200
  obtain ⟨q1, q2, s1, s2, r1, r2, r3, r4⟩ := cz_run (fun i j => if i = 0 then xs j else if i = 1 then nI L else 0) 196
  have c7 := cz_7
  rw [r4] at c7
  have c8 := cz_8
  rw [r1] at c8
  dsimp only at c7 c8
  simp only [Bool.and_eq_true] at c7
  obtain ⟨n1, n2, n3⟩ := c7
  have n1 : q1.1 = none := Option.isNone_iff_eq_none.mp n1
  have n4 : q2.1 = none := Option.isNone_iff_eq_none.mp c8
  have n2 : q1.2.1.2.2.2.1 < 233 := Nat.le_of_ble_eq_true n2
  have n3 : q1.2.1.1 12 = 0 := Nat.eq_of_beq_eq_true n3
  rw [n1] at s1
  rw [n4] at s2
  obtain ⟨f1, f2, -⟩ := cz_f r2
  have l199 : (ovM (fun i j => if i = 0 then xs j else if i = 1 then nI L else 0) q2.2).2 199 1 0 = nI L := by
    rw [ov_199, if_neg (by decide), if_pos rfl]
  obtain ⟨I', hI'⟩ := L_end 0 L none none (ovM (fun i j => if i = 0 then xs j else if i = 1 then nI L else 0) q2.2).2 hL r3 l199
  obtain ⟨n, hn⟩ := mm_l_spec hI'
  have b0 := L_b0 200 none none none (ovM (fun i j => if i = 0 then xs j else if i = 1 then nI L else 0) cz_e) _ (show 0 < 233 by decide) rfl s1
  have b1 := L_b1 200 none none none (ovM (fun i j => if i = 0 then xs j else if i = 1 then nI L else 0) q1.2) _ n2 n3 s2
  have hck : cz_chk (ovM (fun i j => if i = 0 then xs j else if i = 1 then nI L else 0) q2.2) = true := r2
  have hl := lv_entry ([.ref b]) (n := 4) (Nat.le_of_ble_eq_true rfl)
  rw [lg_entry_eq]
  generalize (lg_sl ([.ref b]) ++ List.replicate (4 - (lg_sl ([.ref b])).length) Slot.unset).toArray = ls at hl ⊢
  have hl : lv_has ls 4 [(0, .ref b)] := hl
  have rl0 : mm_rl s D ca s.heap.size b L xs sa 246 (fun k i => if k = 199 then b else if k = 13 then sa i else 0) (ovM (fun i j => if i = 0 then xs j else if i = 1 then nI L else 0) cz_e) [some (.inr (199, 0)), none, none, none] [] (ovM (fun i j => if i = 0 then xs j else if i = 1 then nI L else 0) cz_e) (fun k i => if k = 199 then b else if k = 13 then sa i else 0) s.heap ls [] 0 0 := by
    refine ⟨⟨[], fun k i => ?_, fun q hq => absurd hq List.not_mem_nil, fun k q h => by simp [mm_ws] at h, ⟨fun i j p q h => by simp [mm_ws] at h, fun k q h => by simp [mm_ws] at h⟩, fun k i j q hi => absurd hi (Nat.not_lt_zero _), fun _ => ⟨fun k i j q hq => absurd hq (Nat.succ_ne_zero q).symm, fun k i j _ hk => ⟨if_neg hk, rfl⟩⟩, if_pos rfl, fun i _ => ?_, fun j _ => ?_, ?_⟩, fun v hv => absurd hv List.not_mem_nil, fun i v hv => ?_, hl, va_S.rf, rfl, rfl, fun _ _ _ => rfl, fun _ => Nat.le_refl _⟩
    · exact ⟨fun h => absurd h List.not_mem_nil, fun h => absurd h (Nat.not_lt_zero _)⟩
    · show (if 13 = 199 then b else if 13 = 13 then sa i else 0) = sa i
      rw [if_neg (by decide), if_pos rfl]
    · rw [ov_199, if_pos rfl]
    · rw [ov_199, if_neg (by decide), if_pos rfl, nI_toInt (by omega)]
    · match i, hv with
      | 0, hv => cases hv; exact Or.inr (Or.inl ⟨rfl, rfl⟩)
      | 1, hv => cases hv
      | 2, hv => cases hv
      | 3, hv => cases hv
      | i + 4, hv => cases hv
  have ok := fun k => (⟨(ok_246 k).1, (ok_246 k).2.1⟩ : mm_cb 246 (PP 246 k).1 (PP 246 k).2 = true ∧ mm_npc0 (PP 246 k) = mm_npc 246 (PP 246 k).1 (PP 246 k).2)
  have lq1 : mm_le (ovM (fun i j => if i = 0 then xs j else if i = 1 then nI L else 0) q1.2) (ovM (fun i j => if i = 0 then xs j else if i = 1 then nI L else 0) q2.2) := mm_le_tr (mm_le_nw _ 12 0 50) (mm_S_le _ _ _ _ (none, ovM (fun i j => if i = 0 then xs j else if i = 1 then nI L else 0) q2.2) s2)
  have m1 : q1.2.1.2.2.2.1 ≤ 233 := Nat.le_of_lt n2
  have m2 : q1.2.1.2.2.2.2 ≤ 12328 := by
    have := lq1.2
    have e2 : (ovM (fun i j => if i = 0 then xs j else if i = 1 then nI L else 0) q2.2).1.2.2.2.2 = 12328 := f2
    rw [e2] at this
    exact this
  have run := mm_runG (Q := lw_Z below #[Value.ref b] s) (R := room_1) (e := e) (below := below) (M := 246) (ad0 := fun k i => if k = 199 then b else if k = 13 then sa i else 0) (μ0 := ovM (fun i j => if i = 0 then xs j else if i = 1 then nI L else 0) cz_e) (r := (some (.inl (nI 1)), (sh0, I'))) mm_str ok IH C (by decide) (by decide) (show 233 ≤ 0 + 600000 by decide) (show 12328 ≤ 0 + 7302250 by decide) (fun x lo st μ ad H ls locs cells slots ht hk rl => ?_)
  · have st0 := mm_blkI (Q := lw_Z below #[Value.ref b] s) (R := room_1) (e := e) (below := below) (M := 246) (k := 0) (ad0 := fun k i => if k = 199 then b else if k = 13 then sa i else 0) (μ0 := ovM (fun i j => if i = 0 then xs j else if i = 1 then nI L else 0) cz_e) mm_str (ok 0) IH C (by decide) (by decide) (ht2 := rfl) b0 (show q1.2.1.2.2.2.1 ≤ 0 + 600000 by omega) (show q1.2.1.2.2.2.2 ≤ 0 + 7302250 by omega) (fun ad1 H1 ls1 locs1 cells1 slots1 rl1 => ?_) rl0
    · rw [(ok_246 0).2.2] at st0
      exact st0
    · refine mm_blkI (Q := lw_Z below #[Value.ref b] s) (R := room_1) (e := e) (below := below) (M := 246) (k := 1) (ad0 := fun k i => if k = 199 then b else if k = 13 then sa i else 0) (μ0 := ovM (fun i j => if i = 0 then xs j else if i = 1 then nI L else 0) cz_e) mm_str (ok 1) IH C (by decide) (by decide) (ht2 := rfl) b1 (show q2.2.1.2.2.2.1 ≤ 0 + 600000 by rw [f1]; decide) (show q2.2.1.2.2.2.2 ≤ 0 + 7302250 by rw [f2]; decide) (fun ad2 H2 ls2 locs2 cells2 slots2 rl2 => ?_) rl1
      exact run n 2 _ _ _ ad2 H2 ls2 locs2 cells2 slots2 hn (rl_sh0 hck rl2)
  · obtain ⟨pc, i, len, ⟨s0, s1'⟩, inf, cs⟩ := x
    have hS : va_S (fun q => s.heap.size ≤ q) s.heap H locs := rl.2.2.2.2.1
    have cl : 0 + cells = μ.1.2.2.2.1 := rl.2.2.2.2.2.1
    have sl' : 0 + slots = μ.1.2.2.2.2 := rl.2.2.2.2.2.2.1
    rcases mm_t_inl ht with z | z | z
    · dsimp only at z
      subst z
      simp only [mm_ct, Bool.and_eq_true, decide_eq_true_eq, beq_iff_eq] at hk
      obtain ⟨⟨hd, rfl⟩, hk2⟩ := hk
      have e246 : mm_mr 246 = some .boolean := by decide +kernel
      rw [e246] at hk2
      have hk2 : inf.1 = 1 := by simpa using hk2
      simp only [mm_t] at ht
      split at ht
      · rename_i v
        rw [hk2] at ht
        have ht1 := Option.some.inj ht
        have ht2 := Sum.inl.inj ht1
        have hv : (mm_nar 1 v) = nI 1 := Sum.inl.inj (Option.some.inj (congrArg Prod.fst ht2))
        have hμ : μ = (sh0, I') := congrArg Prod.snd ht2
        have hv1 : v &&& 1 = 1 := hv
        have cc : cells ≤ 600000 := by
          have e1 : μ.1.2.2.2.1 = 233 := by rw [hμ]; rfl
          omega
        have cs' : slots ≤ 7302250 := by
          have e1 : μ.1.2.2.2.2 = 12328 := by rw [hμ]; rfl
          omega
        exact va_forget hS.2.2 (W.widen cc cs' (lw_ret hv1 hx hb hr hlocks hd))
      · cases ht
    · dsimp only at z
      subst z
      simp only [mm_t] at ht
      split at ht
      · cases ht
      · cases ht
    · dsimp only at z
      subst z
      simp only [mm_t] at ht
      split at ht
      · cases ht
      · cases ht
set_option maxHeartbeats 4000000 in
theorem lw_walk (l : Launch) (b : Addr) (xs : List Int32) : MetFree l x (headSpec (Jvm.Cond.code x code maxLocals ret :: tables_1) room_1) (lw_P b xs) (fun _ _ _ _ _ => True) lw_Q := by
  refine MetFree.of_bodyS (code := code) (maxLocals := maxLocals) (ret := ret) (by decide) ?_ ?_
  · intro args s m h hn
    obtain ⟨meth, c, h1, h2, h3, h4, h5, h6, -, -⟩ := Cond.code_spec hn (atoms_spec (ws := Jvm.Cond.code x code maxLocals ret :: tables_1) h _ List.mem_cons_self)
    exact ⟨meth, c, h1, h2, h3, h4, h5, h6⟩
  · intro p e s m args below meth c s₁ B hml0 hP _
    obtain ⟨rfl, hx, hbd, hgv⟩ := hP
    obtain ⟨scr, harrAt, hlist, hof, hsmall⟩ := hx
    obtain ⟨hcb, hkn, -, -⟩ := State.arrayAt?_spec harrAt
    have hown : s.vm.findClass R_law = some m.cls := findClass_of_methodNamed B.named
    have hts0 : ∀ c ∈ (Jvm.Cond.code x code maxLocals ret :: tables_1), c.before #[Value.ref b] s = true := atoms_spec (ws := Jvm.Cond.code x code maxLocals ret :: tables_1) B.pre
    have hts : ∀ w ∈ lw_tbl, w.before #[Value.ref b] s = true := k2_hts_sels lw_privs (fun w hw => hts0 w (List.mem_cons_of_mem _ hw)) lw_privs_ok
    have hml : c.maxLocals = 4 := B.maxLocals_eq (hts0 _ List.mem_cons_self)
    have X₀ : Stand p l e room_1 s m #[Value.ref b] below meth c s₁ [] 0 0 := Stand.of_body B
    have hh0 : s₁.heap = s.heap := by rw [B.state]; rfl
    have hsz : scr.slots.size = xs.length := by rw [← Array.length_toList, hlist, List.length_map]
    have hval : ∀ j : Nat, j < xs.length → scr.slots[j]? = some (.int (xs.getD j 0)) := fun j hj => by
      rw [← Array.getElem?_toList, hlist]
      simp [hj]
    have hbl : b < s.heap.size := (Array.getElem?_eq_some_iff.mp hcb).1
    have hX : va_X b xs.length (fun j => xs.getD j 0) s s.heap := ⟨scr, hcb, hof, hkn, hsz, hval⟩
    have K : W p l e room_1 s m #[Value.ref b] below meth c s₁.heap [] 0 0 (lw_Z below #[Value.ref b] s) (entryFrame m ([Value.ref b] : List Value).toArray 4) := by
      rw [hh0]
      exact whole_start l hbd ⟨B.exec, B.bytes, B.returns, hml, hown, hts, hX, hbl, B.notSynchronized, hgv, (name_of_methodNamed B.named B.method).1⟩
    obtain ⟨t, a1, o, b1, b2, b3⟩ := K s₁ rfl X₀
    exact ⟨t, o, a1, b1, b2, b3⟩
theorem lw_pre_spec {args : Array Value} {s : State} (h : (Jvm.Cond.and given_1 narrow_1).before args s = true) (hr : rest_1_c.before args s = true) : ∃ (b : Addr) (xs : List Int32), lw_P b xs args s := by
  have hs := flat_of_before _ h
  have hq := flat_of_before _ hr
  have hc : (Cond.count 1).before args s = true := hs _ (by decide +kernel)
  have harr : (Cond.arrayOf (.arg 0) .int).before args s = true := hs _ (by decide +kernel)
  have hle : (Cond.le (.length (.arg 0)) (.int 384)).before args s = true := hs _ (by decide +kernel)
  have hlen : (Cond.isInt (.length (.arg 0))).before args s = true := hq _ (by decide +kernel)
  have hall : (Cond.all (.arg 0) (.isInt (.elem (.arg 0) (.index 0)))).before args s = true := hq _ (by decide +kernel)
  obtain ⟨b, xs, hb, hx⟩ := State.ints_of_pre rfl harr hlen hall
  have hsm : xs.length < 2 ^ 31 := hx.choose_spec.2.2.2
  have hev : (Term.length (.arg 0)).eval args s none [] s = some (.int xs.length.toInt32) := hx.length_eval hb
  have hv := Cond.le_ints hev (show (Term.int 384).eval args s none [] s = some (.int 384) from rfl)
  have hd : xs.length.toInt32 ≤ 384 := by
    simpa [Cond.before, Cond.holds, hv] using hle
  have hN : xs.length ≤ 384 := (Int32.ofNat_le_ofNat hsm (by decide)).mp (show Int32.ofNat xs.length ≤ Int32.ofNat 384 from hd)
  exact ⟨b, xs, Cond.one_arg hc (show args[0]? = some (.ref b) from hb), hx, hN, h⟩
theorem lw_comes (l : Launch) : Comes l x (Jvm.Cond.code x code maxLocals ret :: tables_1) room_1 (fun tb e args s => Calls_1 tb e args s ∧ rest_1 tb e args s ∧ Pre_1 tb e args s)
    (fun _ _ args s o t => lw_Q args s o t) := by
  intro p e ha hc hk s m args below hf hfit hheap happ hpre
  obtain ⟨b, xs, hP⟩ := lw_pre_spec hpre.2.2 hpre.2.1
  obtain ⟨k, o, h1, h2, h3, hQ⟩ := lw_walk l b xs p e ha hc hk s m args below hf ((Spec.applies_iff_loose hf).mp happ).1 hP trivial
  exact ⟨k, o, h1, h2, h3, hQ⟩
theorem lw_frame {s t : State} {o : Outcome} {args : Array Value} (h : Framed s o t [] 600000 7302250) :
    Framed s o t (fieldLocs frame_1_writes args s ++ arrayLocs frame_1_arrays args s ++ staticLocs frame_1_statics s) 600000 7302250 := h
theorem lw_limb (L : Cond) (hL : ∀ (args : Array Value) (s t : State), L.after args s (.returned (some (.int 1))) t = true) :
    ArmFor flags0 classFile x code maxLocals ret World_1 tables_1 room_1 Calls_1 rest_1 Pre_1
      (fun tb e a s o t => postC L tb e a s o t ∧ Framed s o t (fieldLocs frame_1_writes a s ++ arrayLocs frame_1_arrays a s ++ staticLocs frame_1_statics s) 600000 7302250) := by
  intro l _ _ _ p e ha hc hk s m args below hf hfit hheap happ hpre
  obtain ⟨k, o, h1, h2, h3, rfl, hF⟩ := lw_comes l p e ha hc hk s m args below hf hfit hheap happ hpre
  exact ⟨k, _, h1, h2, h3, hL args s _, lw_frame hF⟩
theorem i_vc : Claimed_1_1 ∧ Claimed_1_2 := ⟨lw_limb limb_1_1 (fun args s t => by simp [limb_1_1, Cond.after, Cond.holds, Cond.value]), lw_limb limb_1_2 (fun args s t => Cond.after_iff.mpr (by
  first | (rw [show limb_1_2 = Cond.eq .result (.int 1) from rfl, Cond.eq_ints (x := 1) (y := 1) rfl rfl]; simp; done) | (simp [limb_1_2, Cond.value, Term.eval]; done)))⟩
