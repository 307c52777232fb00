/-! THE VIRTUAL MACHINE: numbered cells (below 16 the ones that stood at the start), int, long and reference contents as functions of cell and place; ops are functions; zeRun runs a method's table of ops. Sound: what zeRun answers, the machine answers (part 04, 06). -/
abbrev zeM : Type := Bool × Nat × Nat × (Nat → Nat) × (Nat → Nat) × (Nat → Nat → Option Nat) × (Nat → Nat → Int32) × (Nat → Nat → Int64)
abbrev zeLo : Type := List (Option Value)
abbrev zeSt : Type := Nat × zeLo × List Value × zeM
abbrev zeOut : Type := zeSt ⊕ ((Option Value × zeM) ⊕ (Nat × List Value × zeSt))
abbrev zeOp : Type := zeLo → List Value → zeM → Option zeOut
abbrev zeN (μ : zeM) : Nat := μ.2.1
abbrev zeSl (μ : zeM) : Nat := μ.2.2.1
abbrev zeKd (μ : zeM) : Nat → Nat := μ.2.2.2.1
abbrev zeLn (μ : zeM) : Nat → Nat := μ.2.2.2.2.1
abbrev zeRm (μ : zeM) : Nat → Nat → Option Nat := μ.2.2.2.2.2.1
abbrev zeIm (μ : zeM) : Nat → Nat → Int32 := μ.2.2.2.2.2.2.1
abbrev zeLm (μ : zeM) : Nat → Nat → Int64 := μ.2.2.2.2.2.2.2
/-- a check: the flag stays true only if it holds -/
def zeCk (b : Bool) (μ : zeM) : zeM := (b && μ.1, μ.2)
def zeSIm (f : Nat → Nat → Int32) (μ : zeM) : zeM := (μ.1, zeN μ, zeSl μ, zeKd μ, zeLn μ, zeRm μ, f, zeLm μ)
def zeSLm (f : Nat → Nat → Int64) (μ : zeM) : zeM := (μ.1, zeN μ, zeSl μ, zeKd μ, zeLn μ, zeRm μ, zeIm μ, f)
def zeSRm (f : Nat → Nat → Option Nat) (μ : zeM) : zeM := (μ.1, zeN μ, zeSl μ, zeKd μ, zeLn μ, f, zeIm μ, zeLm μ)
def zeU2 {α : Type} (f : Nat → Nat → α) (a j : Nat) (x : α) : Nat → Nat → α := fun a' j' => if a' = a then (if j' = j then x else f a' j') else f a' j'
def zeU1 {α : Type} (f : Nat → α) (a : Nat) (x : α) : Nat → α := fun a' => if a' = a then x else f a'
/-- n elements copied from row a0, place sp, to row a, place dp -/
def zeCpy {α : Type} (f : Nat → Nat → α) (a0 sp a dp n : Nat) : Nat → Nat → α := fun a' j' => if a' = a then (if dp ≤ j' ∧ j' < dp + n then f a0 (sp + (j' - dp)) else f a' j') else f a' j'
def zeGet : zeLo → Nat → Option Value
  | [], _ => none
  | v :: _, 0 => v
  | _ :: l, k + 1 => zeGet l k
def zeSet : zeLo → Nat → Option Value → zeLo
  | [], _, _ => []
  | _ :: l, 0, x => x :: l
  | v :: l, k + 1, x => v :: zeSet l k x
def zeInb (i : Int32) (n : Nat) : Bool := !(decide (i < 0)) && Nat.blt i.toNatClampNeg n
def zeCat1 : Value → Bool
  | .long _ => false
  | .double _ => false
  | _ => true
def zeRf : Option Nat → Value
  | none => .null
  | some a => .ref a
def zeNx (n : Nat) (L : zeLo) (st : List Value) (μ : zeM) : Option zeOut := some (.inl (n, L, st, μ))
/-! ops: constants, locals, stack -/
def zoIc (v : Int32) (n : Nat) : zeOp := fun L st μ => zeNx n L (.int v :: st) μ
def zoLc (v : Int64) (n : Nat) : zeOp := fun L st μ => zeNx n L (.long v :: st) μ
def zoIl (k n : Nat) : zeOp := fun L st μ => match zeGet L k with
  | some (.int x) => zeNx n L (.int x :: st) μ
  | _ => none
def zoLl (k n : Nat) : zeOp := fun L st μ => match zeGet L k with
  | some (.long x) => zeNx n L (.long x :: st) μ
  | _ => none
def zoAl (k n : Nat) : zeOp := fun L st μ => match zeGet L k with
  | some (.ref x) => zeNx n L (.ref x :: st) μ
  | _ => none
def zoIs (k n : Nat) : zeOp := fun L st μ => match st with
  | .int x :: st' => zeNx n (zeSet L k (some (.int x))) st' μ
  | _ => none
/-- no long stands just below place k -/
def zeNoL (L : zeLo) : Nat → Bool
  | 0 => true
  | k + 1 => match zeGet L k with
    | some v => zeCat1 v
    | none => true
def zoLs (k n : Nat) : zeOp := fun L st μ => match st with
  | .long x :: st' => cond (zeNoL L k) (zeNx n (zeSet (zeSet L k (some (.long x))) (k + 1) none) st' μ) none
  | _ => none
def zoAs (k n : Nat) : zeOp := fun L st μ => match st with
  | .ref x :: st' => zeNx n (zeSet L k (some (.ref x))) st' μ
  | _ => none
def zoInc (k : Nat) (c : Int32) (n : Nat) : zeOp := fun L st μ => match zeGet L k with
  | some (.int x) => zeNx n (zeSet L k (some (.int (x + c)))) st μ
  | _ => none
def zoI2 (f : Int32 → Int32 → Int32) (n : Nat) : zeOp := fun L st μ => match st with
  | .int y :: .int x :: st' => zeNx n L (.int (f x y) :: st') μ
  | _ => none
/-- a division or remainder: the divisor isn't 0 -/
def zoD2 (f : Int32 → Int32 → Int32) (n : Nat) : zeOp := fun L st μ => match st with
  | .int y :: .int x :: st' => zeNx n L (.int (f x y) :: st') (zeCk (!(decide (y = 0))) μ)
  | _ => none
def zoI1 (f : Int32 → Int32) (n : Nat) : zeOp := fun L st μ => match st with
  | .int x :: st' => zeNx n L (.int (f x) :: st') μ
  | _ => none
def zoL2 (f : Int64 → Int64 → Int64) (n : Nat) : zeOp := fun L st μ => match st with
  | .long y :: .long x :: st' => zeNx n L (.long (f x y) :: st') μ
  | _ => none
def zoLsh (f : Int64 → Int32 → Int64) (n : Nat) : zeOp := fun L st μ => match st with
  | .int y :: .long x :: st' => zeNx n L (.long (f x y) :: st') μ
  | _ => none
def zoLcmp (n : Nat) : zeOp := fun L st μ => match st with
  | .long y :: .long x :: st' => zeNx n L (.int (lg_cmp x y) :: st') μ
  | _ => none
def zoI2l (n : Nat) : zeOp := fun L st μ => match st with
  | .int x :: st' => zeNx n L (.long x.toInt64 :: st') μ
  | _ => none
def zoRetJ : zeOp := fun _ st μ => match st with
  | [.long x] => some (.inr (.inl (some (.long x), μ)))
  | _ => none
def zoDup (n : Nat) : zeOp := fun L st μ => match st with
  | v :: st' => cond (zeCat1 v) (zeNx n L (v :: v :: st') μ) none
  | _ => none
def zoDup2 (n : Nat) : zeOp := fun L st μ => match st with
  | v :: w :: st' => cond (zeCat1 v && zeCat1 w) (zeNx n L (v :: w :: v :: w :: st') μ) none
  | _ => none
def zoDupX1 (n : Nat) : zeOp := fun L st μ => match st with
  | v :: w :: st' => cond (zeCat1 v && zeCat1 w) (zeNx n L (v :: w :: v :: st') μ) none
  | _ => none
def zoPop (n : Nat) : zeOp := fun L st μ => match st with
  | v :: st' => cond (zeCat1 v) (zeNx n L st' μ) none
  | _ => none
/-! branches -/
def zoGo (t : Nat) : zeOp := fun L st μ => zeNx t L st μ
def zoZeq (t n : Nat) : zeOp := fun L st μ => match st with
  | .int x :: st' => zeNx (if x = 0 then t else n) L st' μ
  | _ => none
def zoZlt (t n : Nat) : zeOp := fun L st μ => match st with
  | .int x :: st' => zeNx (if x < 0 then t else n) L st' μ
  | _ => none
def zoZle (t n : Nat) : zeOp := fun L st μ => match st with
  | .int x :: st' => zeNx (if x ≤ 0 then t else n) L st' μ
  | _ => none
def zoZge (t n : Nat) : zeOp := fun L st μ => match st with
  | .int x :: st' => zeNx (if 0 ≤ x then t else n) L st' μ
  | _ => none
def zoZgt (t n : Nat) : zeOp := fun L st μ => match st with
  | .int x :: st' => zeNx (if 0 < x then t else n) L st' μ
  | _ => none
def zoCeq (t n : Nat) : zeOp := fun L st μ => match st with
  | .int y :: .int x :: st' => zeNx (if x = y then t else n) L st' μ
  | _ => none
def zoClt (t n : Nat) : zeOp := fun L st μ => match st with
  | .int y :: .int x :: st' => zeNx (if x < y then t else n) L st' μ
  | _ => none
def zoCle (t n : Nat) : zeOp := fun L st μ => match st with
  | .int y :: .int x :: st' => zeNx (if x ≤ y then t else n) L st' μ
  | _ => none
def zoCge (t n : Nat) : zeOp := fun L st μ => match st with
  | .int y :: .int x :: st' => zeNx (if y ≤ x then t else n) L st' μ
  | _ => none
def zoCgt (t n : Nat) : zeOp := fun L st μ => match st with
  | .int y :: .int x :: st' => zeNx (if y < x then t else n) L st' μ
  | _ => none
/-- a switch: the targets of the values, and the other's -/
def zeSw (x : Int32) (d : Nat) : List (Int32 × Nat) → Nat
  | [] => d
  | (k, t) :: l => if x = k then t else zeSw x d l
def zoSw (l : List (Int32 × Nat)) (d : Nat) : zeOp := fun L st μ => match st with
  | .int x :: st' => zeNx (zeSw x d l) L st' μ
  | _ => none
/-- a known cell isn't null -/
def zoNn (t : Nat) : zeOp := fun L st μ => match st with
  | .ref a :: st' => cond (Nat.blt 0 (zeKd μ a)) (zeNx t L st' μ) none
  | _ => none
/-! fields -/
def zoGf (ci j n : Nat) : zeOp := fun L st μ => match st with
  | .ref a :: st' => cond (Nat.beq (zeKd μ a) (ci + 1)) (zeNx n L (.int (zeIm μ a j) :: st') μ) none
  | _ => none
def zoGr (ci j n : Nat) : zeOp := fun L st μ => match st with
  | .ref a :: st' => cond (Nat.beq (zeKd μ a) (ci + 1)) (zeNx n L (zeRf (zeRm μ a j) :: st') μ) none
  | _ => none
def zoPf (ci j n : Nat) : zeOp := fun L st μ => match st with
  | .int x :: .ref a :: st' => cond (Nat.beq (zeKd μ a) (ci + 1)) (zeNx n L st' (zeSIm (zeU2 (zeIm μ) a j x) μ)) none
  | _ => none
/-- an int put into a field of a small type: it is of that type -/
def zoPs (ty : FieldType) (ci j n : Nat) : zeOp := fun L st μ => match st with
  | .int x :: .ref a :: st' => cond (Nat.beq (zeKd μ a) (ci + 1)) (zeNx n L st' (zeCk (decide (narrow ty (.int x) = .int x) && fits ty (.int x)) (zeSIm (zeU2 (zeIm μ) a j x) μ))) none
  | _ => none
def zoPr (ci j n : Nat) : zeOp := fun L st μ => match st with
  | .ref b :: .ref a :: st' => cond (Nat.beq (zeKd μ a) (ci + 1) && Nat.ble 16 b) (zeNx n L st' (zeSRm (zeU2 (zeRm μ) a j (some b)) μ)) none
  | _ => none
/-- fields of the text constants -/
def zoGfO (j n : Nat) : zeOp := fun L st μ => match st with
  | .ref a :: st' => cond (Nat.beq (zeKd μ a) 110) (zeNx n L (.int (zeIm μ a j) :: st') μ) none
  | _ => none
def zoGrO (j n : Nat) : zeOp := fun L st μ => match st with
  | .ref a :: st' => cond (Nat.beq (zeKd μ a) 110) (zeNx n L (zeRf (zeRm μ a j) :: st') μ) none
  | _ => none
/-- a static, or a text constant, that nobody writes -/
def zoK (v : Value) (n : Nat) : zeOp := fun L st μ => zeNx n L (v :: st) μ
/-! arrays; t: 40 int, 41 long, 42 byte, 43 char, 44 boolean, 45 references; 100 and 102: int and byte arrays that stood at the start -/
def zoLd (t n : Nat) : zeOp := fun L st μ => match st with
  | .int i :: .ref a :: st' => cond (Nat.beq (zeKd μ a) t) (zeNx n L (.int (zeIm μ a i.toNatClampNeg) :: st') (zeCk (zeInb i (zeLn μ a)) μ)) none
  | _ => none
def zoLld (n : Nat) : zeOp := fun L st μ => match st with
  | .int i :: .ref a :: st' => cond (Nat.beq (zeKd μ a) 41) (zeNx n L (.long (zeLm μ a i.toNatClampNeg) :: st') (zeCk (zeInb i (zeLn μ a)) μ)) none
  | _ => none
def zoAld (n : Nat) : zeOp := fun L st μ => match st with
  | .int i :: .ref a :: st' => cond (Nat.beq (zeKd μ a) 45) (zeNx n L (zeRf (zeRm μ a i.toNatClampNeg) :: st') (zeCk (zeInb i (zeLn μ a)) μ)) none
  | _ => none
def zeNar (t : Nat) (x : Int32) : Int32 := match t with
  | 42 => vp_nar .byte x
  | 43 => vp_nar .char x
  | 44 => vp_nar .boolean x
  | _ => x
def zoSt (t n : Nat) : zeOp := fun L st μ => match st with
  | .int x :: .int i :: .ref a :: st' => cond (Nat.beq (zeKd μ a) t) (zeNx n L st' (zeCk (zeInb i (zeLn μ a)) (zeSIm (zeU2 (zeIm μ) a i.toNatClampNeg (zeNar t x)) μ))) none
  | _ => none
def zoLst (n : Nat) : zeOp := fun L st μ => match st with
  | .long x :: .int i :: .ref a :: st' => cond (Nat.beq (zeKd μ a) 41) (zeNx n L st' (zeCk (zeInb i (zeLn μ a)) (zeSLm (zeU2 (zeLm μ) a i.toNatClampNeg x) μ))) none
  | _ => none
def zoAst (ci n : Nat) : zeOp := fun L st μ => match st with
  | .ref b :: .int i :: .ref a :: st' => cond (Nat.beq (zeKd μ a) 45 && (Nat.beq (zeKd μ b) (ci + 1) && Nat.ble 16 b)) (zeNx n L st' (zeCk (zeInb i (zeLn μ a)) (zeSRm (zeU2 (zeRm μ) a i.toNatClampNeg (some b)) μ))) none
  | _ => none
def zoLen (n : Nat) : zeOp := fun L st μ => match st with
  | .ref a :: st' => cond (Nat.ble 40 (zeKd μ a) && Nat.ble (zeKd μ a) 45) (zeNx n L (.int (Int32.ofNat (zeLn μ a)) :: st') μ) none
  | _ => none
def zoLenO (n : Nat) : zeOp := fun L st μ => match st with
  | .ref a :: st' => cond (Nat.beq (zeKd μ a) 100 || Nat.beq (zeKd μ a) 102) (zeNx n L (.int (Int32.ofNat (zeLn μ a)) :: st') μ) none
  | _ => none
/-! new cells -/
def zeNew (kd ln sl : Nat) (μ : zeM) : zeM := (μ.1, zeN μ + 1, zeSl μ + sl, zeU1 (zeKd μ) (16 + zeN μ) kd, zeU1 (zeLn μ) (16 + zeN μ) ln, zeU1 (zeRm μ) (16 + zeN μ) (fun _ => none), zeU1 (zeIm μ) (16 + zeN μ) (fun _ => 0), zeU1 (zeLm μ) (16 + zeN μ) (fun _ => 0))
def zoNew (ci nf n : Nat) : zeOp := fun L st μ => zeNx n L (.ref (16 + zeN μ) :: st) (zeNew (ci + 1) 0 nf μ)
def zoNewa (t n : Nat) : zeOp := fun L st μ => match st with
  | .int x :: st' => zeNx n L (.ref (16 + zeN μ) :: st') (zeCk (!(decide (x < 0)) && Nat.ble x.toNatClampNeg 1000000) (zeNew t x.toNatClampNeg x.toNatClampNeg μ))
  | _ => none
/-! Math.max, Math.min, arraycopy -/
def zoMax (n : Nat) : zeOp := fun L st μ => match st with
  | .int y :: .int x :: st' => cond (Nat.ble st'.length 4) (zeNx n L (.int (if x < y then y else x) :: st') μ) none
  | _ => none
def zoMin (n : Nat) : zeOp := fun L st μ => match st with
  | .int y :: .int x :: st' => cond (Nat.ble st'.length 4) (zeNx n L (.int (if y < x then y else x) :: st') μ) none
  | _ => none
def zeCpOk (sp dp n : Int32) (l0 l1 : Nat) : Bool := !(decide (sp < 0)) && (!(decide (dp < 0)) && (!(decide (n < 0)) && (Nat.ble (sp.toNatClampNeg + n.toNatClampNeg) l0 && Nat.ble (dp.toNatClampNeg + n.toNatClampNeg) l1)))
def zoCp (t n : Nat) : zeOp := fun L st μ => match st with
  | .int k :: .int dp :: .ref a :: .int sp :: .ref a0 :: st' => cond (Nat.beq (zeKd μ a) t && (Nat.beq (zeKd μ a0) t && Nat.ble st'.length 4)) (zeNx n L st' (zeCk (zeCpOk sp dp k (zeLn μ a0) (zeLn μ a)) (zeSIm (zeCpy (zeIm μ) a0 sp.toNatClampNeg a dp.toNatClampNeg k.toNatClampNeg) μ))) none
  | _ => none
def zoCpL (n : Nat) : zeOp := fun L st μ => match st with
  | .int k :: .int dp :: .ref a :: .int sp :: .ref a0 :: st' => cond (Nat.beq (zeKd μ a) 41 && (Nat.beq (zeKd μ a0) 41 && Nat.ble st'.length 4)) (zeNx n L st' (zeCk (zeCpOk sp dp k (zeLn μ a0) (zeLn μ a)) (zeSLm (zeCpy (zeLm μ) a0 sp.toNatClampNeg a dp.toNatClampNeg k.toNatClampNeg) μ))) none
  | _ => none
/-- out of a byte array that stood at the start -/
def zoCpO (n : Nat) : zeOp := fun L st μ => match st with
  | .int k :: .int dp :: .ref a :: .int sp :: .ref a0 :: st' => cond (Nat.beq (zeKd μ a) 42 && (Nat.beq (zeKd μ a0) 102 && Nat.ble st'.length 4)) (zeNx n L st' (zeCk (zeCpOk sp dp k (zeLn μ a0) (zeLn μ a)) (zeSIm (zeCpy (zeIm μ) a0 sp.toNatClampNeg a dp.toNatClampNeg k.toNatClampNeg) μ))) none
  | _ => none
/-! calls and ends; Object.<init> -/
def zoObj (n : Nat) : zeOp := fun L st μ => match st with
  | .ref a :: st' => cond (Nat.blt 0 (zeKd μ a) && Nat.ble st'.length 4) (zeNx n L st' μ) none
  | _ => none
def zeAr : Nat → List Value → List Value → Option (List Value × List Value)
  | 0, as, st => some (as, st)
  | k + 1, as, v :: st => zeAr k (v :: as) st
  | _ + 1, _, [] => none
/-- a static method: its number, its arguments -/
def zoCs (f k n : Nat) : zeOp := fun L st μ => match zeAr k [] st with
  | some (as, st') => cond (Nat.ble st'.length 4 && as.all zeCat1) (some (.inr (.inr (f, as, n, L, st', μ)))) none
  | none => none
/-- an object's method: kd: what the receiver is -/
def zoCv (kd f k n : Nat) : zeOp := fun L st μ => match zeAr k [] st with
  | some (as, .ref b :: st') => cond (Nat.beq (zeKd μ b) kd && (Nat.ble st'.length 4 && as.all zeCat1)) (some (.inr (.inr (f, .ref b :: as, n, L, st', μ)))) none
  | _ => none
/-- an int that is of the small type ty -/
def zeNok (ty : FieldType) (x : Int32) : Bool := decide (vp_nar ty x = x)
def zoRetI : zeOp := fun _ st μ => match st with
  | [.int x] => some (.inr (.inl (some (.int x), μ)))
  | _ => none
def zoRetS (ty : FieldType) : zeOp := fun _ st μ => match st with
  | [.int x] => some (.inr (.inl (some (.int x), zeCk (zeNok ty x) μ)))
  | _ => none
def zoRetA : zeOp := fun _ st μ => match st with
  | [.ref a] => cond (Nat.ble 16 a) (some (.inr (.inl (some (.ref a), μ)))) none
  | _ => none
def zoRetV : zeOp := fun _ st μ => match st with
  | [] => some (.inr (.inl (none, μ)))
  | _ => none
/-- the locals at a method's start (its arguments take one place each) -/
def zeEnt (nl : Nat) (as : List Value) : zeLo := as.map some ++ List.replicate (nl - as.length) none
