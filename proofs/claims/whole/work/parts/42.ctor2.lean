def cz_e : mm_M := (((fun _ => 0), (fun _ _ => 0), (fun _ _ _ => 0), 0, 0), fun _ _ _ => 0)
def cz_h : Option mm_R := mm_Sc PP NN 600 4 q_H_init [.inr (11, 0)] (mm_newk cz_e 11 0 17)
def cz_r : Option mm_R := cz_h.bind fun q => mm_Sc PP NN 600 4 q_M_init [.inr (12, 0)] (mm_newk q.2 12 0 50)
def cz_chk (μ : mm_M) : Bool := Nat.beq μ.1.2.2.2.1 233 && Nat.beq μ.1.2.2.2.2 12328 && (List.range 304).all fun k => Nat.beq (μ.1.1 k) (sn k) && (List.range (sn k)).all fun i => (Nat.blt k 20 || Nat.beq (μ.1.2.1 k i) (sl k i)) && (bif Nat.blt k 20 then (List.range (mm_nf k)).all fun j => Nat.beq (mm_ftj k j) 0 || Nat.beq (μ.1.2.2.1 k i j) (sR k i j) else bif Nat.ble 300 k then (List.range (sl k i)).all fun j => Nat.beq (μ.1.2.2.1 k i j) (sR k i j) else true)
theorem cz_3 : (match cz_r with | some q => cz_chk q.2 | none => false) = true := by decide +kernel
