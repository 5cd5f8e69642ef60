/-! A machine of our own over the library's instructions, blocks cut at branches and calls. -/
abbrev mm_V : Type := Int32 ⊕ (Nat × Nat)
abbrev mm_Sh : Type := (Nat → Nat) × (Nat → Nat → Nat) × (Nat → Nat → Nat → Nat) × Nat × Nat
abbrev mm_I : Type := Nat → Nat → Nat → Int32
abbrev mm_M : Type := mm_Sh × mm_I
abbrev mm_L : Type := List (Option mm_V)
abbrev mm_R : Type := Option mm_V × mm_M
abbrev mm_K (ρ : Type) : Type := mm_L → List mm_V → mm_M → Option ρ
/-- a plain instruction: its place, itself, its length, what its operand means, its constant -/
abbrev mm_E : Type := Nat × Jvm.ClassFile.Instr × Nat × (Nat × Nat × Nat) × Int32
/-- an end of a block: its place, itself, its length, the next blocks, what its operand means, a switch's cases -/
abbrev mm_T : Type := Nat ⊕ (Nat × Jvm.ClassFile.Instr × Nat × (Nat × Nat) × (Nat × Nat × Nat) × List (Int32 × Nat))
abbrev mm_B : Type := List mm_E × mm_T

def mm_nth {α : Type} : List α → Nat → Option α
  | [], _ => none
  | a :: _, 0 => some a
  | _ :: l, n + 1 => mm_nth l n
/-- one place of the ints -/
def mm_up (I : mm_I) (k i j : Nat) (x : Int32) : mm_I := fun k' i' j' => if k' = k ∧ i' = i ∧ j' = j then x else I k' i' j'
/-- a row copied into another -/
def mm_cp (I : mm_I) (k i sp k2 i2 dp n : Nat) : mm_I := fun k' i' j' => if k' = k2 ∧ i' = i2 ∧ dp ≤ j' ∧ j' < dp + n then I k i (sp + (j' - dp)) else I k' i' j'
/-- the length of a row; the script's (kind 199) stands among the ints -/
def mm_ln (μ : mm_M) (k i : Nat) : Nat := bif Nat.beq k 199 then (μ.2 199 1 0).toInt.toNat else μ.1.2.1 k i
def mm_bin {ρ : Type} (f : Int32 → Int32 → Int32) (K : mm_K ρ) (ls : mm_L) (st : List mm_V) (μ : mm_M) : Option ρ := match st with
  | .inl y :: .inl x :: r => K ls (.inl (f x y) :: r) μ
  | _ => none
def mm_load {ρ : Type} (i : Nat) (K : mm_K ρ) (ls : mm_L) (st : List mm_V) (μ : mm_M) : Option ρ := match mm_nth ls i with
  | some (some (.inl x)) => K ls (.inl x :: st) μ
  | _ => none
def mm_loada {ρ : Type} (i : Nat) (K : mm_K ρ) (ls : mm_L) (st : List mm_V) (μ : mm_M) : Option ρ := match mm_nth ls i with
  | some (some (.inr x)) => K ls (.inr x :: st) μ
  | _ => none
def mm_store {ρ : Type} (i : Nat) (K : mm_K ρ) (ls : mm_L) (st : List mm_V) (μ : mm_M) : Option ρ := match st with
  | .inl x :: r => K (ls.set i (some (.inl x))) r μ
  | _ => none
def mm_storea {ρ : Type} (i : Nat) (K : mm_K ρ) (ls : mm_L) (st : List mm_V) (μ : mm_M) : Option ρ := match st with
  | .inr x :: r => K (ls.set i (some (.inr x))) r μ
  | _ => none
/-- an int out of a row of ints, of booleans, of chars, of bytes: kinds lo .. hi - 1 -/
def mm_ald {ρ : Type} (lo hi : Nat) (K : mm_K ρ) (ls : mm_L) (st : List mm_V) (μ : mm_M) : Option ρ := match st with
  | .inl x :: .inr (k, i) :: r => bif Nat.ble lo k && Nat.blt k hi then (if 0 ≤ x.toInt ∧ x.toInt < (mm_ln μ k i : Int) then K ls (.inl (μ.2 k i x.toInt.toNat) :: r) μ else none) else none
  | _ => none
def mm_ast {ρ : Type} (lo hi : Nat) (f : Int32 → Int32) (K : mm_K ρ) (ls : mm_L) (st : List mm_V) (μ : mm_M) : Option ρ := match st with
  | .inl v :: .inl x :: .inr (k, i) :: r => bif Nat.ble lo k && Nat.blt k hi then (if 0 ≤ x.toInt ∧ x.toInt < (mm_ln μ k i : Int) then K ls r (μ.1, mm_up μ.2 k i x.toInt.toNat (f v)) else none) else none
  | _ => none
/-- the kind of what a row of references holds -/
def mm_ek (k : Nat) : Nat := bif Nat.beq k 300 then 8 else bif Nat.beq k 301 then 9 else bif Nat.beq k 302 then 1 else 4
def mm_newk (μ : mm_M) (k len sl : Nat) : mm_M := (((fun k' => if k' = k then μ.1.1 k + 1 else μ.1.1 k'), (fun k' i' => if k' = k ∧ i' = μ.1.1 k then len else μ.1.2.1 k' i'), μ.1.2.2.1, μ.1.2.2.2.1 + 1, μ.1.2.2.2.2 + sl), μ.2)
def mm_upr (μ : mm_M) (k i j q : Nat) : mm_M := ((μ.1.1, μ.1.2.1, (fun k' i' j' => if k' = k ∧ i' = i ∧ j' = j then q else μ.1.2.2.1 k' i' j'), μ.1.2.2.2), μ.2)

/-- the class's String constants -/
def mm_st : List (List Int32) := [[108, 101, 97, 118, 101], [115, 104, 117, 116], [112, 114, 105, 99, 101], [119, 97, 115, 104], [107, 119, 115], [119, 98, 121], [107, 108, 111], [104, 119, 100]]
def mm_atd {α : Type} (x : α) : List α → Nat → α
  | [], _ => x
  | a :: _, 0 => a
  | _ :: l, n + 1 => mm_atd x l n
def mm_slen (i : Nat) : Int32 := Int32.ofNat (mm_atd [] mm_st i).length
def mm_sch (i j : Nat) : Int32 := mm_atd 0 (mm_atd [] mm_st i) j
def mm_ixF (c : Int32) : List Int32 → Nat → Int32
  | [], _ => -1
  | b :: l, k => if b = c then Int32.ofNat k else mm_ixF c l (k + 1)
def mm_six (i : Nat) (c : Int32) : Int32 := mm_ixF c (mm_atd [] mm_st i) 0
/-- a plain instruction -/
def mm_s {ρ : Type} (e : mm_E) (K : mm_K ρ) (ls : mm_L) (st : List mm_V) (μ : mm_M) : Option ρ := match e.2.1 with
  | .iconst _ => K ls (.inl e.2.2.2.2 :: st) μ
  | .bipush _ => K ls (.inl e.2.2.2.2 :: st) μ
  | .sipush _ => K ls (.inl e.2.2.2.2 :: st) μ
  | .ldc _ => bif Nat.beq e.2.2.2.1.1 0 then K ls (.inl e.2.2.2.2 :: st) μ else K ls (.inr (13, e.2.2.2.1.2.1) :: st) μ
  | .ldc_w _ => K ls (.inl e.2.2.2.2 :: st) μ
  | .iload i => mm_load i K ls st μ
  | .iload_n i => mm_load i.val K ls st μ
  | .aload i => mm_loada i K ls st μ
  | .aload_n i => mm_loada i.val K ls st μ
  | .istore i => mm_store i K ls st μ
  | .istore_n i => mm_store i.val K ls st μ
  | .astore i => mm_storea i K ls st μ
  | .astore_n i => mm_storea i.val K ls st μ
  | .iinc i _ => match mm_nth ls i with
    | some (some (.inl x)) => K (ls.set i (some (.inl (x + e.2.2.2.2)))) st μ
    | _ => none
  | .iadd => mm_bin (fun x y => x + y) K ls st μ
  | .isub => mm_bin (fun x y => x - y) K ls st μ
  | .imul => mm_bin (fun x y => x * y) K ls st μ
  | .iand => mm_bin (fun x y => x &&& y) K ls st μ
  | .ishl => mm_bin (fun x y => x <<< (y &&& 31)) K ls st μ
  | .ishr => mm_bin (fun x y => x >>> (y &&& 31)) K ls st μ
  | .iushr => mm_bin (fun x y => (x.toUInt32 >>> (y.toUInt32 &&& Int32.toUInt32 31)).toInt32) K ls st μ
  | .idiv => match st with
    | .inl y :: .inl x :: r => if y = 0 then none else K ls (.inl (x / y) :: r) μ
    | _ => none
  | .irem => match st with
    | .inl y :: .inl x :: r => if y = 0 then none else K ls (.inl (x - x / y * y) :: r) μ
    | _ => none
  | .i2c => match st with
    | .inl x :: r => K ls (.inl (x.toUInt32 % 65536).toInt32 :: r) μ
    | _ => none
  | .i2b => match st with
    | .inl x :: r => K ls (.inl x.toInt8.toInt32 :: r) μ
    | _ => none
  | .dup => match st with
    | a :: r => K ls (a :: a :: r) μ
    | _ => none
  | .dup2 => match st with
    | a :: b :: r => K ls (a :: b :: a :: b :: r) μ
    | _ => none
  | .pop => match st with
    | _ :: r => K ls r μ
    | _ => none
  | .getfield _ => match st with
    | .inr (k, i) :: r => bif Nat.beq k e.2.2.2.1.1 then (match e.2.2.2.1.2.2 with
      | 0 => K ls (.inl (μ.2 k i e.2.2.2.1.2.1) :: r) μ
      | t + 1 => match μ.1.2.2.1 k i e.2.2.2.1.2.1 with
        | 0 => none
        | q + 1 => K ls (.inr (t, q) :: r) μ) else none
    | _ => none
  | .putfield _ => match st with
    | .inl v :: .inr (k, i) :: r => bif Nat.beq k e.2.2.2.1.1 then (match e.2.2.2.1.2.2 with
      | 0 => K ls r (μ.1, mm_up μ.2 k i e.2.2.2.1.2.1 v)
      | 1 => if v &&& 1 = v then K ls r (μ.1, mm_up μ.2 k i e.2.2.2.1.2.1 v) else none
      | _ => none) else none
    | .inr (t, q) :: .inr (k, i) :: r => bif Nat.beq k e.2.2.2.1.1 && Nat.beq (t + 2) e.2.2.2.1.2.2 then K ls r (mm_upr μ k i e.2.2.2.1.2.1 (q + 1)) else none
    | _ => none
  | .iaload => mm_ald 20 200 K ls st μ
  | .baload => mm_ald 200 210 K ls st μ
  | .caload => mm_ald 210 220 K ls st μ
  | .aaload => match st with
    | .inl x :: .inr (k, i) :: r => bif Nat.ble 300 k && Nat.blt k 304 then (if 0 ≤ x.toInt ∧ x.toInt < (mm_ln μ k i : Int) then (match μ.1.2.2.1 k i x.toInt.toNat with
      | 0 => none
      | q + 1 => K ls (.inr (mm_ek k, q) :: r) μ) else none) else none
    | _ => none
  | .iastore => mm_ast 20 199 (fun v => v) K ls st μ
  | .bastore => mm_ast 200 210 (fun v => v &&& 1) K ls st μ
  | .castore => mm_ast 210 220 (fun v => v.toUInt32.toUInt16.toUInt32.toInt32) K ls st μ
  | .aastore => match st with
    | .inr (t, q) :: .inl x :: .inr (k, i) :: r => bif Nat.ble 300 k && Nat.blt k 304 && Nat.beq t (mm_ek k) then (if 0 ≤ x.toInt ∧ x.toInt < (mm_ln μ k i : Int) then K ls r (mm_upr μ k i x.toInt.toNat (q + 1)) else none) else none
    | _ => none
  | .arraylength => match st with
    | .inr (k, i) :: r => bif Nat.ble 20 k && Nat.blt k 200 then K ls (.inl (Int32.ofNat (mm_ln μ k i)) :: r) μ else none
    | _ => none
  | .new _ => if μ.1.2.2.2.1 < 233 then K ls (.inr (e.2.2.2.1.1, μ.1.1 e.2.2.2.1.1) :: st) (mm_newk μ e.2.2.2.1.1 0 e.2.2.2.1.2.1) else none
  | .newarray _ => match st with
    | .inl x :: r => if (0 ≤ x.toInt ∧ x.toInt < 100000) ∧ μ.1.2.2.2.1 < 233 then K ls (.inr (e.2.2.2.1.1, μ.1.1 e.2.2.2.1.1) :: r) (mm_newk μ e.2.2.2.1.1 x.toInt.toNat x.toInt.toNat) else none
    | _ => none
  | .anewarray _ => match st with
    | .inl x :: r => if (0 ≤ x.toInt ∧ x.toInt < 100000) ∧ μ.1.2.2.2.1 < 233 then K ls (.inr (e.2.2.2.1.1, μ.1.1 e.2.2.2.1.1) :: r) (mm_newk μ e.2.2.2.1.1 x.toInt.toNat x.toInt.toNat) else none
    | _ => none
  | .invokespecial _ => match st with
    | .inr _ :: r => bif Nat.ble r.length 8 then K ls r μ else none
    | _ => none
  | .invokestatic _ => match e.2.2.2.1.1 with
    | 0 => bif Nat.ble st.length 10 then mm_bin (fun x y => if x < y then y else x) K ls st μ else none
    | 1 => bif Nat.ble st.length 10 then mm_bin (fun x y => if x ≤ y then x else y) K ls st μ else none
    | _ => match st with
      | .inl n :: .inl dp :: .inr (k2, i2) :: .inl sp :: .inr (k, i) :: r => bif Nat.ble 20 k && Nat.blt k 199 && Nat.ble 20 k2 && Nat.blt k2 199 && Nat.ble r.length 8 then (if 0 ≤ n.toInt ∧ 0 ≤ sp.toInt ∧ 0 ≤ dp.toInt ∧ sp.toInt + n.toInt ≤ (mm_ln μ k i : Int) ∧ dp.toInt + n.toInt ≤ (mm_ln μ k2 i2 : Int) then K ls r (μ.1, mm_cp μ.2 k i sp.toInt.toNat k2 i2 dp.toInt.toNat n.toInt.toNat) else none) else none
      | _ => none
  | .invokevirtual _ => match e.2.2.2.1.1 with
    | 0 => match st with
      | .inr (k, i) :: r => bif Nat.beq k 13 && Nat.ble r.length 8 then K ls (.inl (mm_slen i) :: r) μ else none
      | _ => none
    | 1 => match st with
      | .inl x :: .inr (k, i) :: r => bif Nat.beq k 13 && Nat.ble r.length 8 then (if 0 ≤ x.toInt ∧ x.toInt < (mm_slen i).toInt then K ls (.inl (mm_sch i x.toInt.toNat) :: r) μ else none) else none
      | _ => none
    | _ => match st with
      | .inl x :: .inr (k, i) :: r => bif Nat.beq k 13 && Nat.ble r.length 8 then K ls (.inl (mm_six i x) :: r) μ else none
      | _ => none
  | _ => none

def mm_sw {ρ : Type} (K : Nat → Option ρ) (x : Int32) (d : Nat) : List (Int32 × Nat) → Option ρ
  | [] => K d
  | (v, k) :: l => if x = v then K k else mm_sw K x d l
def mm_cont {ρ : Type} (K : mm_K ρ) (ls : mm_L) (r : List mm_V) (q : mm_R) : Option ρ := match q.1 with
  | none => K ls r q.2
  | some v => K ls (v :: r) q.2
def mm_nar (t : Nat) (x : Int32) : Int32 := match t with
  | 0 => x
  | 1 => x &&& 1
  | 2 => x.toUInt32.toUInt16.toUInt32.toInt32
  | _ => x.toInt8.toInt32
/-- a call: its arguments stand on the stack, at most 8 below them -/
def mm_cal {ρ : Type} (S : Nat → List mm_V → mm_M → Option mm_R) (K : mm_K ρ) (m n : Nat) (ls : mm_L) (st : List mm_V) (μ : mm_M) : Option ρ := bif Nat.ble n st.length && Nat.ble st.length (8 + n) then (S m (st.take n).reverse μ).bind (mm_cont K ls (st.drop n)) else none
/-- of whom a method is asked -/
def mm_rcv (n kd : Nat) (st : List mm_V) : Bool := match st.drop (n - 1) with
  | .inr q :: _ => Nat.beq q.1 kd
  | _ => false
/-- a block's end -/
def mm_t {ρ : Type} (S : Nat → List mm_V → mm_M → Option mm_R) (ret : mm_R → Option ρ) (K : Nat → mm_K ρ) (t : mm_T) (ls : mm_L) (st : List mm_V) (μ : mm_M) : Option ρ := match t with
  | .inl k => K k ls st μ
  | .inr e => match e.2.1 with
    | .goto _ => K e.2.2.2.1.1 ls st μ
    | .ifCond o _ => match st with
      | .inl x :: r => (match o with
        | .eq => if x = 0 then K e.2.2.2.1.1 ls r μ else K e.2.2.2.1.2 ls r μ
        | .ne => if x = 0 then K e.2.2.2.1.2 ls r μ else K e.2.2.2.1.1 ls r μ
        | .lt => if x < 0 then K e.2.2.2.1.1 ls r μ else K e.2.2.2.1.2 ls r μ
        | .ge => if x < 0 then K e.2.2.2.1.2 ls r μ else K e.2.2.2.1.1 ls r μ
        | .gt => if 0 < x then K e.2.2.2.1.1 ls r μ else K e.2.2.2.1.2 ls r μ
        | .le => if 0 < x then K e.2.2.2.1.2 ls r μ else K e.2.2.2.1.1 ls r μ)
      | _ => none
    | .if_icmp o _ => match st with
      | .inl y :: .inl x :: r => (match o with
        | .eq => if x = y then K e.2.2.2.1.1 ls r μ else K e.2.2.2.1.2 ls r μ
        | .ne => if x = y then K e.2.2.2.1.2 ls r μ else K e.2.2.2.1.1 ls r μ
        | .lt => if x < y then K e.2.2.2.1.1 ls r μ else K e.2.2.2.1.2 ls r μ
        | .ge => if x < y then K e.2.2.2.1.2 ls r μ else K e.2.2.2.1.1 ls r μ
        | .gt => if y < x then K e.2.2.2.1.1 ls r μ else K e.2.2.2.1.2 ls r μ
        | .le => if y < x then K e.2.2.2.1.2 ls r μ else K e.2.2.2.1.1 ls r μ)
      | _ => none
    | .tableswitch _ _ _ _ => match st with
      | .inl x :: r => mm_sw (fun k => K k ls r μ) x e.2.2.2.1.1 e.2.2.2.2.2
      | _ => none
    | .lookupswitch _ _ => match st with
      | .inl x :: r => mm_sw (fun k => K k ls r μ) x e.2.2.2.1.1 e.2.2.2.2.2
      | _ => none
    | .ireturn => match st with
      | [.inl x] => ret (some (.inl (mm_nar e.2.2.2.2.1.1 x)), μ)
      | _ => none
    | .areturn => match st with
      | [.inr x] => ret (some (.inr x), μ)
      | _ => none
    | .return_ => match st with
      | [] => ret (none, μ)
      | _ => none
    | .invokevirtual _ => bif mm_rcv e.2.2.2.2.1.2.1 e.2.2.2.2.1.2.2 st then mm_cal S (K e.2.2.2.1.1) e.2.2.2.2.1.1 e.2.2.2.2.1.2.1 ls st μ else none
    | .invokestatic _ => mm_cal S (K e.2.2.2.1.1) e.2.2.2.2.1.1 e.2.2.2.2.1.2.1 ls st μ
    | .invokespecial _ => bif mm_rcv e.2.2.2.2.1.2.1 e.2.2.2.2.1.2.2 st then mm_cal S (K e.2.2.2.1.1) e.2.2.2.2.1.1 e.2.2.2.2.1.2.1 ls st μ else none
    | _ => none
/-- a block -/
def mm_b {ρ : Type} (S : Nat → List mm_V → mm_M → Option mm_R) (ret : mm_R → Option ρ) (K : Nat → mm_K ρ) (b : mm_B) : mm_K ρ := b.1.foldr (fun e k => mm_s e k) (mm_t S ret K b.2)
/-- n blocks at most -/
def mm_y (P : Nat → Nat → mm_B) (S : Nat → List mm_V → mm_M → Option mm_R) (m : Nat) : Nat → Nat → mm_K mm_R
  | 0 => fun _ _ _ _ => none
  | n + 1 => fun k => mm_b S some (mm_y P S m n) (P m k)
