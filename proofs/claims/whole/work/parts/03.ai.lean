/-! A SMALL MACHINE OF ITS OWN over whole numbers: what a method does, as a condition on where it comes to -/
abbrev Lc : Type := List (Option Vl)
abbrev Mm : Type := Nat → Int → Int
abbrev Kt : Type := Int → Mm → Prop
abbrev Gm : Type := Nat → List Vl → Mm → Kt → Prop
def zUp (M : Mm) (a : Nat) (i v : Int) : Mm := fun a' i' => if a' = a then (if i' = i then v else M a i') else M a' i'
def zCpy (M : Mm) (s : Nat) (sp : Int) (d : Nat) (dp n : Int) : Mm := fun a' i' => if a' = d then (if dp ≤ i' ∧ i' < dp + n then M s (sp + (i' - dp)) else M d i') else M a' i'
def zC (c : Bool) (P : Prop) : Prop := match c with
  | true => P
  | false => False
def zR32 (x : Int) : Bool := decide (-2147483648 ≤ x) && decide (x ≤ 2147483647)
def zR64 (x : Int) : Bool := decide (-9223372036854775808 ≤ x) && decide (x ≤ 9223372036854775807)
def zObj (o ci : Nat) : Bool := match zSh[o]? with
  | some (none, c) => Nat.beq c ci
  | _ => false
/-- arrays: 0 int, 1 long, 2 byte, 3 boolean, 4 of references -/
def zTy : FieldType → Nat
  | .int => 0
  | .long => 1
  | .byte => 2
  | .boolean => 3
  | .object _ => 4
  | _ => 5
def zArr (o : Nat) (ty : Nat) : Bool := match zSh[o]? with
  | some (some t, _) => Nat.beq (zTy t) ty
  | _ => false
def zLen (o : Nat) : Int := match zSh[o]? with
  | some q => (q.2 : Int)
  | none => 0
def zMax (x y : Int) : Int := if x < y then y else x
def zMin (x y : Int) : Int := if y < x then y else x
def zBy (x : Int) : Bool := decide (-128 ≤ x) && decide (x ≤ 127)
def zDv (x y : Int) : Bool := decide (0 ≤ x) && decide (0 < y)
def zCo (sp dp n ls ld : Int) : Bool := decide (0 ≤ sp) && (decide (0 ≤ dp) && (decide (0 ≤ n) && (decide (sp + n ≤ ls) && decide (dp + n ≤ ld))))
def zBo (x : Int) : Bool := decide (x = 0) || decide (x = 1)
def zSm (y n : Int) : Bool := decide (0 ≤ y) && decide (y < n)
def zIandZ (x y : Int) : Int := ((Int32.ofInt x) &&& (Int32.ofInt y)).toInt
def zIorZ (x y : Int) : Int := ((Int32.ofInt x) ||| (Int32.ofInt y)).toInt
def zIxorZ (x y : Int) : Int := ((Int32.ofInt x) ^^^ (Int32.ofInt y)).toInt
def zLandZ (x y : Int) : Int := ((Int64.ofInt x) &&& (Int64.ofInt y)).toInt
def zLorZ (x y : Int) : Int := ((Int64.ofInt x) ||| (Int64.ofInt y)).toInt
def zLxorZ (x y : Int) : Int := ((Int64.ofInt x) ^^^ (Int64.ofInt y)).toInt
def zLushrZ (x y : Int) : Int := (((Int64.ofInt x).toUInt64 >>> ((Int32.ofInt y).toInt64.toUInt64 &&& Int64.toUInt64 63)).toInt64).toInt
def zB8 (x : Int) : Int := (x + 128) % 256 - 128
def zLcmp (x y : Int) : Int := if x < y then -1 else if x = y then 0 else 1
def zCmp : Jvm.ClassFile.Cond → Int → Int → Prop
  | .eq, x, y => x = y
  | .ne, x, y => ¬ x = y
  | .lt, x, y => x < y
  | .ge, x, y => y ≤ x
  | .gt, x, y => y < x
  | .le, x, y => x ≤ y
-- the stack
def zS1 (st : List Vl) (k : Int → List Vl → Prop) : Prop := match st with
  | .inl x :: r => k x r
  | _ => False
def zS2 (st : List Vl) (k : Int → Int → List Vl → Prop) : Prop := match st with
  | .inl y :: .inl x :: r => k x y r
  | _ => False
def zL1 (st : List Vl) (k : Int → List Vl → Prop) : Prop := match st with
  | .inr (.inl x) :: r => k x r
  | _ => False
def zL2 (st : List Vl) (k : Int → Int → List Vl → Prop) : Prop := match st with
  | .inr (.inl y) :: .inr (.inl x) :: r => k x y r
  | _ => False
def zLI (st : List Vl) (k : Int → Int → List Vl → Prop) : Prop := match st with
  | .inl y :: .inr (.inl x) :: r => k x y r
  | _ => False
def zR1 (st : List Vl) (k : Nat → List Vl → Prop) : Prop := match st with
  | .inr (.inr a) :: r => k a r
  | _ => False
def zRI (st : List Vl) (k : Nat → Int → List Vl → Prop) : Prop := match st with
  | .inl i :: .inr (.inr a) :: r => k a i r
  | _ => False
def zRJ (st : List Vl) (k : Nat → Int → List Vl → Prop) : Prop := match st with
  | .inr (.inl i) :: .inr (.inr a) :: r => k a i r
  | _ => False
def zRII (st : List Vl) (k : Nat → Int → Int → List Vl → Prop) : Prop := match st with
  | .inl x :: .inl i :: .inr (.inr a) :: r => k a i x r
  | _ => False
def zRIL (st : List Vl) (k : Nat → Int → Int → List Vl → Prop) : Prop := match st with
  | .inr (.inl x) :: .inl i :: .inr (.inr a) :: r => k a i x r
  | _ => False
def zRIR (st : List Vl) (k : Nat → Int → Nat → List Vl → Prop) : Prop := match st with
  | .inr (.inr x) :: .inl i :: .inr (.inr a) :: r => k a i x r
  | _ => False
def zIIRIR (st : List Vl) (k : Nat → Int → Nat → Int → Int → List Vl → Prop) : Prop := match st with
  | .inl n :: .inl dp :: .inr (.inr d) :: .inl sp :: .inr (.inr s) :: r => k s sp d dp n r
  | _ => False
def zDup (st : List Vl) (k : List Vl → Prop) : Prop := match st with
  | .inl x :: r => k (.inl x :: .inl x :: r)
  | .inr (.inr x) :: r => k (.inr (.inr x) :: .inr (.inr x) :: r)
  | _ => False
def zDup2 (st : List Vl) (k : List Vl → Prop) : Prop := match st with
  | .inr (.inl x) :: r => k (.inr (.inl x) :: .inr (.inl x) :: r)
  | .inl x :: .inr (.inr y) :: r => k (.inl x :: .inr (.inr y) :: .inl x :: .inr (.inr y) :: r)
  | .inl x :: .inl y :: r => k (.inl x :: .inl y :: .inl x :: .inl y :: r)
  | _ => False
def zPop1 (st : List Vl) (k : List Vl → Prop) : Prop := match st with
  | .inl _ :: r => k r
  | .inr (.inr _) :: r => k r
  | _ => False
def zPops : Nat → List Vl → List Vl → (List Vl → List Vl → Prop) → Prop
  | 0, acc, st, k => k acc st
  | _ + 1, _, [], _ => False
  | n + 1, acc, v :: st, k => zPops n (v :: acc) st k
def zCats : List Vl → Nat
  | [] => 0
  | .inr (.inl _) :: r => 2 + zCats r
  | _ :: r => 1 + zCats r
def zNil : List Vl → Bool
  | [] => true
  | _ => false
def zHead (as : List Vl) (ci : Nat) : Bool := match as with
  | .inr (.inr o) :: _ => zObj o ci
  | _ => false
def zPush (kd : Int) (z : Int) (r : List Vl) : List Vl := match kd with
  | .ofNat 0 => r
  | .ofNat 1 => .inl z :: r
  | _ => .inr (.inl z) :: r
-- the locals
def zGet : Lc → Nat → Option Vl
  | [], _ => none
  | v :: _, 0 => v
  | _ :: l, n + 1 => zGet l n
def zLdI (L : Lc) (i : Nat) (k : Int → Prop) : Prop := match zGet L i with
  | some (.inl x) => k x
  | _ => False
def zLdL (L : Lc) (i : Nat) (k : Int → Prop) : Prop := match zGet L i with
  | some (.inr (.inl x)) => k x
  | _ => False
def zLdR (L : Lc) (i : Nat) (k : Nat → Prop) : Prop := match zGet L i with
  | some (.inr (.inr x)) => k x
  | _ => False
def zKl (n : Nat) (u : Option Vl) : Option Vl := match n, u with
  | 0, some (.inr (.inl _)) => none
  | _, u => u
def zSt1 : Lc → Nat → Vl → Lc
  | [], _, _ => []
  | _ :: l, 0, v => some v :: l
  | u :: l, n + 1, v => zKl n u :: zSt1 l n v
def zSt2 : Lc → Nat → Vl → Lc
  | [], _, _ => []
  | [_], 0, _ => [none]
  | _ :: _ :: l, 0, v => some v :: none :: l
  | u :: l, n + 1, v => zKl n u :: zSt2 l n v
def zLoc : Nat → List Vl → Lc
  | n, [] => List.replicate n none
  | n, .inl z :: as => some (.inl z) :: zLoc (n - 1) as
  | n, .inr (.inl z) :: as => some (.inr (.inl z)) :: none :: zLoc (n - 2) as
  | n, .inr (.inr z) :: as => some (.inr (.inr z)) :: zLoc (n - 1) as
def zGf (b o : Nat) (x : Int) : Vl := match b with
  | 0 => .inl x
  | 1 => .inr (.inl x)
  | n + 2 => cond (Nat.beq (n % 2) 0) (.inr (.inr (o + n / 2))) (.inr (.inr (n / 2)))
def zTsw (pc : Nat) (J : Nat → Prop) (x : Int) : Int → List Int → Prop
  | _, [] => True
  | lo, o :: os => (x = lo → J ((pc : Int) + o).toNat) ∧ zTsw pc J x (lo + 1) os
def zEx (Γ : Gm) (K : Kt) (F : Lc → List Vl → Mm → Prop) (J : Nat → Lc → List Vl → Mm → Prop) (pc : Nat) (i : Instr) (a b : Nat) (v : Int) (w : Nat) (L : Lc) (st : List Vl) (M : Mm) : Prop :=
  match i with
  | .iconst n => F L (.inl n :: st) M
  | .bipush n => F L (.inl n :: st) M
  | .sipush n => F L (.inl n :: st) M
  | .ldc _ => F L (.inl v :: st) M
  | .ldc_w _ => F L (.inl v :: st) M
  | .ldc2_w _ => F L (.inr (.inl v) :: st) M
  | .lconst _ => F L (.inr (.inl v) :: st) M
  | .iload _ => zLdI L a fun x => F L (.inl x :: st) M
  | .iload_n _ => zLdI L a fun x => F L (.inl x :: st) M
  | .lload _ => zLdL L a fun x => F L (.inr (.inl x) :: st) M
  | .lload_n _ => zLdL L a fun x => F L (.inr (.inl x) :: st) M
  | .aload _ => zLdR L a fun x => F L (.inr (.inr x) :: st) M
  | .aload_n _ => zLdR L a fun x => F L (.inr (.inr x) :: st) M
  | .istore _ => zS1 st fun x r => F (zSt1 L a (.inl x)) r M
  | .istore_n _ => zS1 st fun x r => F (zSt1 L a (.inl x)) r M
  | .lstore _ => zL1 st fun x r => F (zSt2 L a (.inr (.inl x))) r M
  | .lstore_n _ => zL1 st fun x r => F (zSt2 L a (.inr (.inl x))) r M
  | .astore _ => zR1 st fun x r => F (zSt1 L a (.inr (.inr x))) r M
  | .astore_n _ => zR1 st fun x r => F (zSt1 L a (.inr (.inr x))) r M
  | .iinc _ _ => zLdI L a fun x => F (zSt1 L a (.inl (x + v))) st M
  | .iadd => zS2 st fun x y r => F L (.inl (x + y) :: r) M
  | .isub => zS2 st fun x y r => F L (.inl (x - y) :: r) M
  | .imul => zS2 st fun x y r => F L (.inl (x * y) :: r) M
  | .idiv => zS2 st fun x y r => zC (zR32 x) (zC (zR32 y) (zC (zDv x y) (F L (.inl (x / y) :: r) M)))
  | .irem => zS2 st fun x y r => zC (zR32 x) (zC (zR32 y) (zC (zDv x y) (F L (.inl (x % y) :: r) M)))
  | .iand => zS2 st fun x y r => F L (.inl (zIandZ x y) :: r) M
  | .ior => zS2 st fun x y r => F L (.inl (zIorZ x y) :: r) M
  | .ixor => zS2 st fun x y r => F L (.inl (zIxorZ x y) :: r) M
  | .ishl => zS2 st fun x y r => zC (zSm y 32) (F L (.inl (x * 2 ^ y.toNat) :: r) M)
  | .ishr => zS2 st fun x y r => zC (zR32 x) (zC (zSm y 32) (F L (.inl (x / 2 ^ y.toNat) :: r) M))
  | .ladd => zL2 st fun x y r => F L (.inr (.inl (x + y)) :: r) M
  | .lsub => zL2 st fun x y r => F L (.inr (.inl (x - y)) :: r) M
  | .lmul => zL2 st fun x y r => F L (.inr (.inl (x * y)) :: r) M
  | .ldiv => zL2 st fun x y r => zC (zR64 x) (zC (zR64 y) (zC (zDv x y) (F L (.inr (.inl (x / y)) :: r) M)))
  | .lrem => zL2 st fun x y r => zC (zR64 x) (zC (zR64 y) (zC (zDv x y) (F L (.inr (.inl (x % y)) :: r) M)))
  | .land => zL2 st fun x y r => F L (.inr (.inl (zLandZ x y)) :: r) M
  | .lor => zL2 st fun x y r => F L (.inr (.inl (zLorZ x y)) :: r) M
  | .lxor => zL2 st fun x y r => F L (.inr (.inl (zLxorZ x y)) :: r) M
  | .lshl => zLI st fun x y r => zC (zSm y 64) (F L (.inr (.inl (x * 2 ^ y.toNat)) :: r) M)
  | .lshr => zLI st fun x y r => zC (zR64 x) (zC (zSm y 64) (F L (.inr (.inl (x / 2 ^ y.toNat)) :: r) M))
  | .lushr => zLI st fun x y r => F L (.inr (.inl (zLushrZ x y)) :: r) M
  | .i2l => zS1 st fun x r => zC (zR32 x) (F L (.inr (.inl x) :: r) M)
  | .l2i => zL1 st fun x r => F L (.inl x :: r) M
  | .i2b => zS1 st fun x r => F L (.inl (zB8 x) :: r) M
  | .lcmp => zL2 st fun x y r => zC (zR64 x) (zC (zR64 y) (F L (.inl (zLcmp x y) :: r) M))
  | .dup => zDup st fun r => F L r M
  | .dup2 => zDup2 st fun r => F L r M
  | .pop => zPop1 st fun r => F L r M
  | .goto _ => J a L st M
  | .ifCond c _ => zS1 st fun x r => zC (zR32 x) ((zCmp c x 0 → J a L r M) ∧ (¬ zCmp c x 0 → F L r M))
  | .if_icmp c _ => zS2 st fun x y r => zC (zR32 x) (zC (zR32 y) ((zCmp c x y → J a L r M) ∧ (¬ zCmp c x y → F L r M)))
  | .tableswitch df lo hi offs => zS1 st fun x r => zC (zR32 x) (zTsw pc (fun q => J q L r M) x lo offs.toList ∧ ((x < lo ∨ hi < x) → J ((pc : Int) + df).toNat L r M))
  | .getfield _ => zR1 st fun o r => zC (zObj o a) (F L (zGf b o (M o v) :: r) M)
  | .putfield _ => cond (Nat.beq b 0) (zRI st fun o x r => zC (zObj o a) (F L r (zUp M o v x))) (zRJ st fun o x r => zC (zObj o a) (F L r (zUp M o v x)))
  | .getstatic _ => F L (.inr (.inr zOW) :: st) M
  | .iaload => cond (Nat.beq w 1) (zRI st fun o i r => zC (Nat.beq o zOW) (zC (zSm i 13) (F L (.inl (zOwn i) :: r) M))) (zRI st fun o i r => zC (zArr o 0) (zC (zSm i (zLen o)) (F L (.inl (M o i) :: r) M)))
  | .baload => zRI st fun o i r => zC (zArr o (cond (Nat.beq w 1) 3 2)) (zC (zSm i (zLen o)) (F L (.inl (M o i) :: r) M))
  | .laload => zRI st fun o i r => zC (zArr o 1) (zC (zSm i (zLen o)) (F L (.inr (.inl (M o i)) :: r) M))
  | .aaload => zRI st fun o i r => zC (zArr o 4) (zC (zSm i (zLen o)) (F L (.inr (.inr (M o i).toNat) :: r) M))
  | .iastore => zRII st fun o i x r => zC (zArr o 0) (zC (zSm i (zLen o)) (F L r (zUp M o i x)))
  | .bastore => cond (Nat.beq w 1) (zRII st fun o i x r => zC (zArr o 3) (zC (zSm i (zLen o)) (zC (zBo x) (F L r (zUp M o i x))))) (zRII st fun o i x r => zC (zArr o 2) (zC (zSm i (zLen o)) (zC (zBy x) (F L r (zUp M o i x)))))
  | .lastore => zRIL st fun o i x r => zC (zArr o 1) (zC (zSm i (zLen o)) (F L r (zUp M o i x)))
  | .aastore => zRIR st fun o i x r => zC (zArr o 4) (zC (zSm i (zLen o)) (zC (zObj x zTree) (F L r (zUp M o i x))))
  | .arraylength => cond (Nat.beq w 1) (zR1 st fun o r => zC (Nat.beq o zOW) (F L (.inl 13 :: r) M)) (zR1 st fun o r => zC (zArr o 0 || zArr o 1) (F L (.inl (zLen o) :: r) M))
  | .invokevirtual _ => zPops b [] st fun as r => zC (zHead as w) (zC (Nat.ble (zCats r) 8) (Γ a as M (fun z M' => F L (zPush v z r) M')))
  | .invokestatic _ => cond (Nat.beq w 0) (zPops b [] st fun as r => zC (Nat.ble (zCats r) 8) (Γ a as M (fun z M' => F L (zPush v z r) M')))
      (cond (Nat.beq w 3) (zS2 st fun x y r => zC (zR32 x) (zC (zR32 y) (zC (Nat.ble (zCats r) 8) (F L (.inl (zMax x y) :: r) M))))
      (cond (Nat.beq w 4) (zS2 st fun x y r => zC (zR32 x) (zC (zR32 y) (zC (Nat.ble (zCats r) 8) (F L (.inl (zMin x y) :: r) M))))
      (zIIRIR st fun s sp d dp n r => zC (Nat.ble (zCats r) 8) (zC (zArr s (cond (Nat.beq w 1) 0 1)) (zC (zArr d (cond (Nat.beq w 1) 0 1)) (zC (!Nat.beq s d) (zC (zCo sp dp n (zLen s) (zLen d)) (F L r (zCpy M s sp d dp n)))))))))
  | .ireturn => zS1 st fun x r => zC (zNil r) (cond (Nat.beq w 1) (zC (zBo x) (K x M)) (K x M))
  | .lreturn => zL1 st fun x r => zC (zNil r) (K x M)
  | .return_ => zC (zNil st) (K 0 M)
  | _ => False
def zFd (q : Nat) : List En → Option En
  | [] => none
  | e :: es => cond (Nat.beq e.1 q) (some e) (zFd q es)
def zF (μ pc : Nat) : Option En := zFd pc (zPg μ)
abbrev Pm : Type := Nat → Lc → List Vl → Mm → Prop
def zStp (Γ : Gm) (μ : Nat) (K : Kt) (P : Pm) (pc : Nat) (L : Lc) (st : List Vl) (M : Mm) : Prop := match zF μ pc with
  | some (p, i, nx, a, b, v, w) => zEx Γ K (P nx) P p i a b v w L st M
  | none => False
def zWp (Γ : Gm) (μ : Nat) (K : Kt) (pc : Nat) (L : Lc) (st : List Vl) (M : Mm) : Prop :=
  ∀ P : Pm, (∀ pc L st M, zStp Γ μ K P pc L st M → P pc L st M) → P pc L st M
def zIn (q : Nat) : List Nat → Bool
  | [] => false
  | a :: l => cond (Nat.beq a q) true (zIn q l)
/-- the code from a place on, up to the places of 'stops' -/
def zBk (Γ : Gm) (μ : Nat) (K : Kt) (pg : List En) (stops : List Nat) : Nat → Nat → Lc → List Vl → Mm → Prop
  | 0, pc, L, st, M => zWp Γ μ K pc L st M
  | f + 1, pc, L, st, M => match zFd pc pg with
    | some (p, i, nx, a, b, v, w) => zEx Γ K (fun L' st' M' => cond (zIn nx stops) (zWp Γ μ K nx L' st' M') (zBk Γ μ K pg stops f nx L' st' M'))
        (fun q L' st' M' => cond (zIn q stops) (zWp Γ μ K q L' st' M') (zBk Γ μ K pg stops f q L' st' M')) p i a b v w L st M
    | none => False
def zSp : Nat → Gm
  | 0, _, _, _, _ => False
  | d + 1, μ, as, M, K => zC (Nat.ble (zCats as) (zMl μ)) (zWp (zSp d) μ K 0 (zLoc (zMl μ) as) [] M)
