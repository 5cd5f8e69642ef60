/-! findChoice of the reference: the codes. -/
theorem hIb2 {f : Nat → Int} (h : ∀ i, -9999 ≤ f i ∧ f i ≤ 9999) : ∀ (n i : Nat), -9999 * (n : Int) ≤ hI f n i ∧ hI f n i ≤ 9999 * (n : Int)
  | 0, _ => ⟨Int.le_refl _, Int.le_refl _⟩
  | n + 1, i => by
    have h1 := hIb2 h n (i + 1)
    have h2 := h i
    rw [hI]
    omega
theorem hN_b {f : Nat → Nat} (h : ∀ i, f i ≤ 99999) : ∀ n i, hN f n i ≤ 99999 * n
  | 0, _ => Nat.le_refl _
  | n + 1, i => by
    have h1 := hN_b h n (i + 1)
    have h2 := h i
    rw [hN]
    omega
def LV (A : mm_A) (y x j : Nat) (x6 x7 x8 : Int32) : Prop :=
  (x8 = nI 1 ∧ (∀ i, A 0 0 4 - j ≤ i → i < A 0 0 4 → cO A i (dg2 (A 0 0 4) 0 (fun _ => 0) x i) = true) ∧ x6 = zI (hI (fun i => cW A y i (dg2 (A 0 0 4) 0 (fun _ => 0) x i)) j (A 0 0 4 - j)) ∧ x7 = nI (hN (fun i => cP A i (dg2 (A 0 0 4) 0 (fun _ => 0) x i)) j (A 0 0 4 - j))) ∨
  (x8 = nI 0 ∧ ∃ i, i < A 0 0 4 ∧ cO A i (dg2 (A 0 0 4) 0 (fun _ => 0) x i) = false)
theorem s_fcLeaf (d y c N x : Nat) (v10 : Option mm_V) (A : mm_A) (K : mm_I) (g : Good A) (hx : x ≤ 15625) (hK : RcA A y K) : ∃ x6 x7 x8 w10, Rn d q_M_findChoice 15 [some (.inr (12, 0)), some (.inl (nI y)), some (.inl (nI c)), some (.inl (nI N)), some (.inl (nI x)), some (.inl (nI x)), some (.inl (nI 0)), some (.inl (nI 0)), some (.inl (nI 1)), some (.inl (zI ((A 0 0 4 : Int) - 1))), v10] [] K = Rn d q_M_findChoice 21 [some (.inr (12, 0)), some (.inl (nI y)), some (.inl (nI c)), some (.inl (nI N)), some (.inl (nI x)), some (.inl (nI (x / 5 ^ A 0 0 4))), some (.inl x6), some (.inl x7), some (.inl x8), some (.inl (zI (-1))), w10] [] K ∧ LV A y x (A 0 0 4) x6 x7 x8 := by
  have h6 : A 0 0 4 ≤ 6 := g.2.1 2 (by decide)
  have key := lpX (n := A 0 0 4) (σ := Int32 × Int32 × Int32 × Option mm_V) (fun j s => Rn d q_M_findChoice 15 [some (.inr (12, 0)), some (.inl (nI y)), some (.inl (nI c)), some (.inl (nI N)), some (.inl (nI x)), some (.inl (nI (x / 5 ^ j))), some (.inl (s.1)), some (.inl (s.2.1)), some (.inl (s.2.2.1)), some (.inl (zI ((A 0 0 4 : Int) - 1 - (j : Int)))), s.2.2.2] [] K) (fun j s => LV A y x j s.1 s.2.1 s.2.2.1) (fun q => ∃ x6 x7 x8 w10, q = Rn d q_M_findChoice 21 [some (.inr (12, 0)), some (.inl (nI y)), some (.inl (nI c)), some (.inl (nI N)), some (.inl (nI x)), some (.inl (nI (x / 5 ^ A 0 0 4))), some (.inl x6), some (.inl x7), some (.inl x8), some (.inl (zI (-1))), w10] [] K ∧ LV A y x (A 0 0 4) x6 x7 x8) ?_ ?_ 0 (nI 0, nI 0, nI 1, v10) (Nat.zero_le _) ?_
  · rw [Nat.pow_zero, Nat.div_one, show (A 0 0 4 : Int) - 1 - ((0 : Nat) : Int) = (A 0 0 4 : Int) - 1 by omega] at key
    exact key
  · rintro j ⟨x6, x7, x8, v⟩ hj hV
    dsimp only at hV ⊢
    right
    have b1 : x / 5 ^ j ≤ x := Nat.div_le_self _ _
    have dd : x / 5 ^ (j + 1) = x / 5 ^ j / 5 := by rw [Nat.div_div_eq_div_mul, Nat.pow_succ]
    have dq : dg2 (A 0 0 4) 0 (fun _ => 0) x (A 0 0 4 - 1 - j) = x / 5 ^ j % 5 := by
      unfold dg2
      rw [if_pos (by omega), show A 0 0 4 - 1 - (A 0 0 4 - 1 - j) = j by omega]
    have hps : A 0 0 4 - (j + 1) = A 0 0 4 - 1 - j := by omega
    have hps2 : A 0 0 4 - 1 - j + 1 = A 0 0 4 - j := by omega
    have e1 : zI ((A 0 0 4 : Int) - 1 - j) = nI (A 0 0 4 - 1 - j) := by rw [zn _ (by omega)]; congr 1; omega
    have e3 : nI (A 0 0 4 - 1 - j) + (-1 : Int32) = zI ((A 0 0 4 : Int) - 1 - ((j + 1 : Nat) : Int)) := by
      rw [← e1, show (-1 : Int32) = zI (-1) from rfl, zad]; congr 1; omega
    rw [e1, dd]
    rw [← e3]
    generalize hi : A 0 0 4 - 1 - j = i at *
    have hi4 : i < A 0 0 4 := by omega
    generalize x / 5 ^ j = a at *
    have m5 : a % 5 < 5 := Nat.mod_lt _ (by decide)
    obtain ⟨r59, r58⟩ := hK i (a % 5) hi4 m5
    have t1 : 0 ≤ (nI (5 * i + a % 5)).toInt ∧ (nI (5 * i + a % 5)).toInt < ((30 : Nat) : Int) := by rw [nI_toInt (by omega)]; omega
    have x1 : nI a / (5 : Int32) = nI (a / 5) := ndv (b := 5) (by omega) (by decide) (by decide)
    have x2 : (5 : Int32) * nI i + (nI a - nI (a / 5) * (5 : Int32)) = nI (5 * i + a % 5) := by
      rw [show (5 : Int32) = nI 5 from rfl, nml, nml, nsb (by omega), nad, show a - a / 5 * 5 = a % 5 by omega]
    have st : Rn d q_M_findChoice 15 [some (.inr (12, 0)), some (.inl (nI y)), some (.inl (nI c)), some (.inl (nI N)), some (.inl (nI x)), some (.inl (nI a)), some (.inl x6), some (.inl x7), some (.inl x8), some (.inl (nI i)), v] [] K = if x8 = 0 then Rn d q_M_findChoice 19 [some (.inr (12, 0)), some (.inl (nI y)), some (.inl (nI c)), some (.inl (nI N)), some (.inl (nI x)), some (.inl (nI (a / 5))), some (.inl x6), some (.inl x7), some (.inl x8), some (.inl (nI i)), some (.inl (nI (5 * i + a % 5)))] [] K else Rn d q_M_findChoice 17 [some (.inr (12, 0)), some (.inl (nI y)), some (.inl (nI c)), some (.inl (nI N)), some (.inl (nI x)), some (.inl (nI (a / 5))), some (.inl x6), some (.inl x7), some (.inl x8), some (.inl (nI i)), some (.inl (nI (5 * i + a % 5)))] [] K := by
      rw [e_M_findChoice_15, if_neg (by rw [show (0 : Int32) = nI 0 from rfl, nlt (by omega) (by omega)]; omega), e_M_findChoice_16, if_neg (by decide), if_neg (by decide), x1, x2]
    have s20 : ∀ x8' s0, Rn d q_M_findChoice 20 [some (.inr (12, 0)), some (.inl (nI y)), some (.inl (nI c)), some (.inl (nI N)), some (.inl (nI x)), some (.inl (nI (a / 5))), some (.inl x6), some (.inl x7), some (.inl x8'), some (.inl (nI i)), some (.inl (nI (5 * i + a % 5)))] [.inl s0] K = Rn d q_M_findChoice 15 [some (.inr (12, 0)), some (.inl (nI y)), some (.inl (nI c)), some (.inl (nI N)), some (.inl (nI x)), some (.inl (nI (a / 5))), some (.inl (x6 + K 58 0 (5 * i + a % 5))), some (.inl (x7 + K 59 0 (5 * i + a % 5))), some (.inl s0), some (.inl (nI i + (-1 : Int32))), some (.inl (nI (5 * i + a % 5)))] [] K := fun x8' s0 => by
      rw [e_M_findChoice_20, if_pos t1, if_pos t1, nN (by omega)]
    rcases hV with ⟨v1, v2, v3, v4⟩ | ⟨v1, i', v2, v3⟩
    · cases z : cO A i (a % 5) with
      | true =>
        rw [z, if_pos rfl] at r59
        refine ⟨(x6 + K 58 0 (5 * i + a % 5), x7 + K 59 0 (5 * i + a % 5), nI 1, some (.inl (nI (5 * i + a % 5)))), Or.inl ⟨rfl, fun i' h1 h2 => ?_, ?_, ?_⟩, ?_⟩
        · by_cases w : i' = i
          · rw [w, dq]; exact z
          · exact v2 i' (by omega) h2
        · dsimp only
          rw [v3, r58, zad, hps, hI, dq, hps2, Int.add_comm]
        · dsimp only
          rw [v4, r59, nad, hps, hN, dq, hps2, Nat.add_comm]
        · dsimp only
          have cb := cP_b g i (a % 5)
          have n0 : ¬ (nI (cP A i (a % 5)) < 0) := by rw [show (0 : Int32) = nI 0 from rfl, nlt (by omega) (by omega)]; omega
          rw [st, if_neg (by rw [v1]; decide), e_M_findChoice_17, if_pos t1, nN (by omega)]
          rw [← s20 x8 (nI 1), r59, if_neg n0, e_M_findChoice_18]
          rfl
      | false =>
        rw [z, if_neg (by decide)] at r59
        refine ⟨(x6 + K 58 0 (5 * i + a % 5), x7 + K 59 0 (5 * i + a % 5), nI 0, some (.inl (nI (5 * i + a % 5)))), Or.inr ⟨rfl, i, hi4, by rw [dq]; exact z⟩, ?_⟩
        dsimp only
        rw [st, if_neg (by rw [v1]; decide), e_M_findChoice_17, if_pos t1, nN (by omega)]
        rw [← s20 x8 (nI 0), r59, if_pos (by decide), e_M_findChoice_19]
        rfl
    · refine ⟨(x6 + K 58 0 (5 * i + a % 5), x7 + K 59 0 (5 * i + a % 5), nI 0, some (.inl (nI (5 * i + a % 5)))), Or.inr ⟨rfl, i', v2, v3⟩, ?_⟩
      dsimp only
      rw [st, if_pos (show x8 = 0 from v1), ← s20 x8 (nI 0), e_M_findChoice_19]
      rfl
  · rintro ⟨x6, x7, x8, v⟩ hV
    dsimp only at hV ⊢
    refine ⟨x6, x7, x8, v, ?_, hV⟩
    rw [show (A 0 0 4 : Int) - 1 - (A 0 0 4 : Int) = -1 by omega, e_M_findChoice_15, if_pos (by decide)]
  · exact Or.inl ⟨rfl, fun i h1 h2 => absurd h1 (by omega), rfl, rfl⟩
theorem s_fcCode (d y c N x : Nat) (v5 v6 v7 v8 v9 v10 : Option mm_V) (A : mm_A) (s : BT) (I K : mm_I) (hR : RepR 0 A K) (g : Good A) (hNb : N ≤ 15625) (hxN : x < N) (hc : c ≤ 999999) (hK : RcA A y K) (hB : BC (A 0 0 4) s K) (hf : f32 I K) : ∃ w5 w6 w7 w8 w9 w10 K', Rn d q_M_findChoice 13 [some (.inr (12, 0)), some (.inl (nI y)), some (.inl (nI c)), some (.inl (nI N)), some (.inl (nI x)), v5, v6, v7, v8, v9, v10] [] K = Rn d q_M_findChoice 13 [some (.inr (12, 0)), some (.inl (nI y)), some (.inl (nI c)), some (.inl (nI N)), some (.inl (nI (x + 1))), w5, w6, w7, w8, w9, w10] [] K' ∧ f32 I K' ∧ BC (A 0 0 4) (lf2 (cO A) (cW A y) (cP A) c (A 0 0 4) (dg2 (A 0 0 4) 0 (fun _ => 0) x) s) K' := by
  have h6 : A 0 0 4 ≤ 6 := g.2.1 2 (by decide)
  have h4 : K 47 0 4 = nI (A 0 0 4) := hR.1 4 (by decide)
  obtain ⟨x6, x7, x8, w10, l1, l2⟩ := s_fcLeaf d y c N x v10 A K g (by omega) hK
  have st : Rn d q_M_findChoice 13 [some (.inr (12, 0)), some (.inl (nI y)), some (.inl (nI c)), some (.inl (nI N)), some (.inl (nI x)), v5, v6, v7, v8, v9, v10] [] K = Rn d q_M_findChoice 21 [some (.inr (12, 0)), some (.inl (nI y)), some (.inl (nI c)), some (.inl (nI N)), some (.inl (nI x)), some (.inl (nI (x / 5 ^ A 0 0 4))), some (.inl x6), some (.inl x7), some (.inl x8), some (.inl (zI (-1))), w10] [] K := by
    rw [← l1, e_M_findChoice_13, if_pos (by rw [nlt (by omega) (by omega)]; exact hxN), e_M_findChoice_14, if_pos (by decide), show (4 : Int32).toInt.toNat = 4 from rfl, h4, show nI (A 0 0 4) - (1 : Int32) = zI ((A 0 0 4 : Int) - 1) from zsb (a := A 0 0 4) (b := 1) (by omega) (by decide)]
    rfl
  have nx : nI x + (1 : Int32) = nI (x + 1) := nad x 1
  rw [st]
  rcases l2 with ⟨v1, v2, v3, v4⟩ | ⟨v1, i', v2, v3⟩
  · have ok : okQ (cO A) (A 0 0 4) (dg2 (A 0 0 4) 0 (fun _ => 0) x) = true := okQ_iff.mpr (fun i hi => v2 i (by omega) hi)
    have hw := hIb2 (f := fun i => cW A y i (dg2 (A 0 0 4) 0 (fun _ => 0) x i)) (fun i => cW_b g y i _) (A 0 0 4) 0
    have hp := hN_b (f := fun i => cP A i (dg2 (A 0 0 4) 0 (fun _ => 0) x i)) (fun i => cP_b g i _) (A 0 0 4) 0
    have sw := hI_sI (fun i => cW A y i (dg2 (A 0 0 4) 0 (fun _ => 0) x i)) (A 0 0 4) 0
    have sp := hN_sm (fun i => cP A i (dg2 (A 0 0 4) 0 (fun _ => 0) x i)) (A 0 0 4) 0
    rw [Nat.zero_add] at sw sp
    have sw' : hI (fun i => cW A y i (dg2 (A 0 0 4) 0 (fun _ => 0) x i)) (A 0 0 4) 0 = sI (fun i => cW A y i (dg2 (A 0 0 4) 0 (fun _ => 0) x i)) (A 0 0 4) := by
      rw [← sw]; exact (Int.zero_add _).symm
    have sp' : hN (fun i => cP A i (dg2 (A 0 0 4) 0 (fun _ => 0) x i)) (A 0 0 4) 0 = sm (fun i => cP A i (dg2 (A 0 0 4) 0 (fun _ => 0) x i)) (A 0 0 4) := by
      rw [← sp]; exact (Nat.zero_add _).symm
    rw [Nat.sub_self, sw'] at v3
    rw [Nat.sub_self, sp'] at v4
    rw [sw'] at hw
    rw [sp'] at hp
    unfold lf2
    rw [if_pos ok]
    generalize sI (fun i => cW A y i (dg2 (A 0 0 4) 0 (fun _ => 0) x i)) (A 0 0 4) = w at *
    generalize sm (fun i => cP A i (dg2 (A 0 0 4) 0 (fun _ => 0) x i)) (A 0 0 4) = p at *
    have n1 : ¬ (x8 = 0) := by rw [v1]; decide
    have zc : (nI c < nI p) = (c < p) := nlt (by omega) (by omega)
    by_cases z : p ≤ c
    · obtain ⟨K', t1, t2, t3⟩ := s_fcTake d (A 0 0 4) y c N x p w (nI (x / 5 ^ A 0 0 4)) x8 (zI (-1)) w10 s I K (by omega) (by omega) (by omega) z hc hB hf
      refine ⟨some (.inl (nI (x / 5 ^ A 0 0 4))), some (.inl (zI w)), some (.inl (nI p)), some (.inl x8), some (.inl (zI (-1))), w10, K', ?_, t2, t3⟩
      rw [e_M_findChoice_21, if_neg n1, e_M_findChoice_22, v3, v4, if_neg (by rw [zc]; omega), t1, e_M_findChoice_28, nx]
    · have tk : tk2 c s w p (dg2 (A 0 0 4) 0 (fun _ => 0) x) = s := by
        unfold tk2
        rw [decide_eq_false z, Bool.false_and]
        rfl
      rw [tk]
      refine ⟨some (.inl (nI (x / 5 ^ A 0 0 4))), some (.inl (zI w)), some (.inl (nI p)), some (.inl x8), some (.inl (zI (-1))), w10, K, ?_, hf, hB⟩
      rw [e_M_findChoice_21, if_neg n1, e_M_findChoice_22, v3, v4, if_pos (by rw [zc]; omega), e_M_findChoice_28, nx]
  · have ok : ¬ (okQ (cO A) (A 0 0 4) (dg2 (A 0 0 4) 0 (fun _ => 0) x) = true) := fun q => by
      rw [okQ_iff.mp q i' v2] at v3
      cases v3
    unfold lf2
    rw [if_neg ok]
    refine ⟨some (.inl (nI (x / 5 ^ A 0 0 4))), some (.inl x6), some (.inl x7), some (.inl x8), some (.inl (zI (-1))), w10, K, ?_, hf, hB⟩
    rw [e_M_findChoice_21, if_pos (show x8 = 0 from v1), e_M_findChoice_28, nx]
noncomputable def ccA (A : mm_A) (y c : Nat) : BT := cf (cO A) (cW A y) (cP A) c (A 0 0 4) 0 0 0 (fun _ => 0) none
theorem s_M_findChoice (d y c : Nat) (A : mm_A) (I : mm_I) (hR : RepR 0 A I) (g : Good A) (hy : y ≤ 30) (hc : c ≤ 999999) (h8 : I 12 0 8 = -nI 1) : ∃ I', Sn (d + 7) q_M_findChoice [.inr (12, 0), .inl (nI y), .inl (nI c)] I = some (none, (sh0, I')) ∧ eqo [12, 48, 49, 50, 51, 56, 57, 58, 59] I I' ∧ (∀ s, s ≠ 7 → s ≠ 30 → s ≠ 31 → s ≠ 32 → I' 12 0 s = I 12 0 s) ∧ BC (A 0 0 4) (ccA A y c) I' := by
  have h6 : A 0 0 4 ≤ 6 := g.2.1 2 (by decide)
  have hNb : 5 ^ A 0 0 4 ≤ 15625 := Nat.le_trans (Nat.pow_le_pow_right (by decide) h6) (by decide)
  obtain ⟨K0, v5, v6, p1, p2, p3, p4⟩ := s_fcFill d y c A I hR g hy h8
  have hcs : ccA A y c = fo (fun x => lf2 (cO A) (cW A y) (cP A) c (A 0 0 4) (dg2 (A 0 0 4) 0 (fun _ => 0) x)) (5 ^ A 0 0 4) none := cf_code (A 0 0 4) 0 0 0 (fun _ => 0) none (Nat.zero_add _) rfl rfl (fun k hk => absurd hk (Nat.not_lt_zero _))
  rw [p1, hcs]
  have hR0 : RepR 0 A K0 := RepR_o hR (by rw [p2 47 (by decide)])
  generalize 5 ^ A 0 0 4 = N at hNb ⊢
  have e0 : ∀ k, k ≠ 12 → mm_up K0 12 0 32 (-nI 1) k = K0 k := fun k hk => by funext a b; exact up_F (fun q => hk q.1)
  refine lpX (n := N) (σ := Option mm_V × Option mm_V × Option mm_V × Option mm_V × Option mm_V × Option mm_V × mm_I) (fun x s => Rn (d + 6) q_M_findChoice 13 [some (.inr (12, 0)), some (.inl (nI y)), some (.inl (nI c)), some (.inl (nI N)), some (.inl (nI x)), s.1, s.2.1, s.2.2.1, s.2.2.2.1, s.2.2.2.2.1, s.2.2.2.2.2.1] [] s.2.2.2.2.2.2) (fun x s => f32 (mm_up K0 12 0 32 (-nI 1)) s.2.2.2.2.2.2 ∧ BC (A 0 0 4) (fo (fun x => lf2 (cO A) (cW A y) (cP A) c (A 0 0 4) (dg2 (A 0 0 4) 0 (fun _ => 0) x)) x none) s.2.2.2.2.2.2) (fun q => ∃ I', q = some (none, (sh0, I')) ∧ eqo [12, 48, 49, 50, 51, 56, 57, 58, 59] I I' ∧ (∀ s, s ≠ 7 → s ≠ 30 → s ≠ 31 → s ≠ 32 → I' 12 0 s = I 12 0 s) ∧ BC (A 0 0 4) (fo (fun x => lf2 (cO A) (cW A y) (cP A) c (A 0 0 4) (dg2 (A 0 0 4) 0 (fun _ => 0) x)) N none) I') ?_ ?_ 0 (v5, v6, none, none, none, none, mm_up K0 12 0 32 (-nI 1)) (Nat.zero_le _) ⟨⟨eqo_rf _ _, fun _ _ _ _ => rfl⟩, ?_⟩
  · rintro x ⟨a5, a6, a7, a8, a9, a10, K⟩ hx ⟨k1, k2⟩
    dsimp only at k1 k2 ⊢
    right
    have ek : ∀ k, k ≠ 12 → K k = K0 k := fun k hk => by rw [k1.1 k (by simpa using hk), e0 k hk]
    have hR1 : RepR 0 A K := RepR_o hR0 (by rw [ek 47 (by decide)])
    have hK : RcA A y K := fun i k hi hk => Rc_c (p4 i k hi hk) (by rw [ek 58 (by decide)]) (by rw [ek 59 (by decide)])
    obtain ⟨w5, w6, w7, w8, w9, w10, K', q1, q2, q3⟩ := s_fcCode (d + 6) y c N x a5 a6 a7 a8 a9 a10 A _ _ K hR1 g hNb hx hc hK k2 k1
    exact ⟨(w5, w6, w7, w8, w9, w10, K'), ⟨q2, q3⟩, q1⟩
  · rintro ⟨a5, a6, a7, a8, a9, a10, K⟩ ⟨k1, k2⟩
    dsimp only at k1 k2 ⊢
    refine ⟨K, ?_, eqo_tr p2 (eqo_tr (eqo_up (eqo_rf _ _) (by decide)) (eqo_mono k1.1 (by decide))), fun s h1 h2 h3 h4 => ?_, k2⟩
    · rw [e_M_findChoice_13, if_neg (by rw [nlt (by omega) (by omega)]; omega), e_M_findChoice_29]
    · rw [k1.2 s h2 h3 h4, up_F (by omega)]
      exact p3 s h1
  · show mm_up K0 12 0 32 (-nI 1) 12 0 32 = -nI 1
    rw [up_s]
