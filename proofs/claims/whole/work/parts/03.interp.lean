/-! AN INTERPRETER of the bytecode over a picture of the heap: a list of cells, in which a reference is a place in the list (script and static table: .retAddr 0, 1). -/
abbrev iEnt : Type := Instr × Nat × Nat × Value × Nat
abbrev iMeth : Type := MethodName × ByteArray × Nat × Option FieldType × Nat × Nat × List Nat × List (List (Option iEnt))
abbrev iCfg : Type := Nat × List (Nat × Value) × List Value × List va_E
abbrev iOut : Type := iCfg ⊕ ((Nat × List Value × iCfg) ⊕ Option Value)
abbrev iExtT : Type := Nat → Option (Nat × (Nat → Int32))
abbrev iRes : Type := Option Value × List va_E
def iLg {α : Type} : List α → Nat → Option α
  | [], _ => none
  | a :: _, 0 => some a
  | _ :: l, n + 1 => iLg l n
theorem iLg_eq {α : Type} (l : List α) (n : Nat) : iLg l n = l[n]? := by
  induction l generalizing n with
  | nil => simp [iLg]
  | cons a l ih =>
    cases n with
    | zero => simp [iLg]
    | succ n => simp [iLg, ih]
def iFetch (t : List (List (Option iEnt))) (pc : Nat) : Option iEnt := match iLg t (pc / 16) with
  | some r => (match iLg r (pc % 16) with
    | some (some e) => some e
    | _ => none)
  | none => none
def iTake : Nat → List Value → List Value → Option (List Value × List Value)
  | 0, acc, S => some (acc, S)
  | n + 1, acc, v :: S => iTake n (v :: acc) S
  | _ + 1, _, [] => none
def iLget : List (Nat × Value) → Nat → Option Value
  | [], _ => none
  | (j, v) :: L, i => if j = i then some v else iLget L i
def iLfl {ρ : Type} (p : Nat × Value → Bool) : List (Nat × Value) → (List (Nat × Value) → ρ) → ρ
  | [], k => k []
  | q :: l, k => bif p q then iLfl p l (fun r => k (q :: r)) else iLfl p l k
theorem iLfl_eq {ρ : Type} (p : Nat × Value → Bool) (l : List (Nat × Value)) (k : List (Nat × Value) → ρ) : iLfl p l k = k (l.filter p) := by
  induction l generalizing k with
  | nil => rfl
  | cons q l ih =>
    cases h : p q with
    | true => simp [iLfl, h, ih, List.filter]
    | false => simp [iLfl, h, ih, List.filter]
def iTyF (ci : Nat) : Nat → FieldType := match ci with
  | 0 => tyX0 | 1 => tyX1 | 2 => tyX2 | 3 => tyX3 | 4 => tyX4 | 5 => tyX5 | 6 => tyX6 | 7 => tyX7 | _ => tyX8
def iFit (ty : FieldType) (v : Value) : Prop := match ty, v with
  | .int, .int _ => True
  | .boolean, .int x => x = 0 ∨ x = 1
  | .object _, .ref _ => True
  | .array _, .ref _ => True
  | _, _ => False
def iDfl (ci : Nat) : List Value := match ci with
  | 0 => [.null, .null, .null, .null, .int 0, .int 0]
  | 1 => [.null, .null, .null, .int 0]
  | 2 => [.null, .int 0, .int 0]
  | 3 => [.null, .null, .null, .int 0]
  | 4 => [.null, .int 0]
  | 5 => [.null, .null, .null, .null, .null, .int 0]
  | 6 => [.null, .null, .null]
  | 7 => (List.range 17).map (fun k => defaultValue (tyX7 k))
  | _ => (List.range 27).map (fun k => defaultValue (tyX8 k))
abbrev iNx (nx : Nat) (L : List (Nat × Value)) (S : List Value) (h : List va_E) : Option iOut := some (.inl (nx, L, S, h))
abbrev iP1 (i : Nat) : Nat × Value → Bool := fun q => !(q.1 == i) && !(q.1 + 1 == i && q.2.category == 2)
abbrev iP2 (i : Nat) : Nat × Value → Bool := fun q => !(q.1 == i) && (!(q.1 == i + 1) && !(q.1 + 1 == i && q.2.category == 2))
def iLdI (i nx : Nat) (L : List (Nat × Value)) (S : List Value) (h : List va_E) : Option iOut := match iLget L i with
  | some (.int x) => iNx nx L (.int x :: S) h
  | _ => none
def iLdL (i nx : Nat) (L : List (Nat × Value)) (S : List Value) (h : List va_E) : Option iOut := match iLget L i with
  | some (.long x) => iNx nx L (.long x :: S) h
  | _ => none
def iLdA (i nx : Nat) (L : List (Nat × Value)) (S : List Value) (h : List va_E) : Option iOut := match iLget L i with
  | some (.ref x) => iNx nx L (.ref x :: S) h
  | some (.retAddr 0) => iNx nx L (.retAddr 0 :: S) h
  | some (.retAddr 1) => iNx nx L (.retAddr 1 :: S) h
  | _ => none
def iStI (i nx : Nat) (L : List (Nat × Value)) (S : List Value) (h : List va_E) : Option iOut := match S with
  | .int x :: S' => iLfl (iP1 i) L (fun L' => iNx nx ((i, .int x) :: L') S' h)
  | _ => none
def iStL (i nx : Nat) (L : List (Nat × Value)) (S : List Value) (h : List va_E) : Option iOut := match S with
  | .long x :: S' => iLfl (iP2 i) L (fun L' => iNx nx ((i, .long x) :: L') S' h)
  | _ => none
def iStA (i nx : Nat) (L : List (Nat × Value)) (S : List Value) (h : List va_E) : Option iOut := match S with
  | .ref x :: S' => iLfl (iP1 i) L (fun L' => iNx nx ((i, .ref x) :: L') S' h)
  | .retAddr 0 :: S' => iLfl (iP1 i) L (fun L' => iNx nx ((i, .retAddr 0) :: L') S' h)
  | .retAddr 1 :: S' => iLfl (iP1 i) L (fun L' => iNx nx ((i, .retAddr 1) :: L') S' h)
  | _ => none
def iBin (g : Int32 → Int32 → Int32) (nx : Nat) (L : List (Nat × Value)) (S : List Value) (h : List va_E) : Option iOut := match S with
  | .int y :: .int x :: S' => iNx nx L (.int (g x y) :: S') h
  | _ => none
def iBil (g : Int64 → Int64 → Int64) (nx : Nat) (L : List (Nat × Value)) (S : List Value) (h : List va_E) : Option iOut := match S with
  | .long y :: .long x :: S' => iNx nx L (.long (g x y) :: S') h
  | _ => none
def iUn (g : Int32 → Int32) (nx : Nat) (L : List (Nat × Value)) (S : List Value) (h : List va_E) : Option iOut := match S with
  | .int x :: S' => iNx nx L (.int (g x) :: S') h
  | _ => none
def iCmp (cd : ClassFile.Cond) (x y : Int32) (A B : Option iOut) : Option iOut := match cd with
  | .eq => if x = y then A else B
  | .ne => if ¬ x = y then A else B
  | .lt => if x < y then A else B
  | .ge => if y ≤ x then A else B
  | .gt => if y < x then A else B
  | .le => if x ≤ y then A else B
def iGetf (nx res : Nat) (L : List (Nat × Value)) (S : List Value) (h : List va_E) : Option iOut := match S with
  | .ref a :: S' => (match iLg h a with
    | some (.inr (ci, fs)) => if ci = res / 64 then (match iLg fs (res % 64) with
      | some v => iNx nx L (v :: S') h
      | none => none) else none
    | _ => none)
  | _ => none
def iPutf (nx res : Nat) (L : List (Nat × Value)) (S : List Value) (h : List va_E) : Option iOut := match S with
  | v :: .ref a :: S' => (match iLg h a with
    | some (.inr (ci, fs)) => if ci = res / 64 then (if res % 64 < fs.length then (match iTyF ci (res % 64), v with
      | .int, .int x => iNx nx L S' (h.set a (.inr (ci, fs.set (res % 64) (.int x))))
      | .boolean, .int x => if x = 0 ∨ x = 1 then iNx nx L S' (h.set a (.inr (ci, fs.set (res % 64) (.int x)))) else none
      | .object _, .ref x => iNx nx L S' (h.set a (.inr (ci, fs.set (res % 64) (.ref x))))
      | .array _, .ref x => iNx nx L S' (h.set a (.inr (ci, fs.set (res % 64) (.ref x))))
      | _, _ => none) else none) else none
    | _ => none)
  | _ => none
def iAld (E : iExtT) (nx : Nat) (L : List (Nat × Value)) (S : List Value) (h : List va_E) : Option iOut := match S with
  | .int i :: .ref a :: S' => (match iLg h a with
    | some (.inl (0, n, .inl f)) => if ¬ (i < 0 ∨ n ≤ i.toNatClampNeg) then iNx nx L (.int (f i.toNatClampNeg) :: S') h else none
    | _ => none)
  | .int i :: .retAddr a :: S' => (match E a with
    | some (n, f) => if ¬ (i < 0 ∨ n ≤ i.toNatClampNeg) then iNx nx L (.int (f i.toNatClampNeg) :: S') h else none
    | none => none)
  | _ => none
def iAll (nx : Nat) (L : List (Nat × Value)) (S : List Value) (h : List va_E) : Option iOut := match S with
  | .int i :: .ref a :: S' => (match iLg h a with
    | some (.inl (1, n, .inr (.inl f))) => if ¬ (i < 0 ∨ n ≤ i.toNatClampNeg) then iNx nx L (.long (f i.toNatClampNeg) :: S') h else none
    | _ => none)
  | _ => none
def iAla (nx : Nat) (L : List (Nat × Value)) (S : List Value) (h : List va_E) : Option iOut := match S with
  | .int i :: .ref a :: S' => (match iLg h a with
    | some (.inl (2, n, .inr (.inr (.inr (.inr f))))) => if ¬ (i < 0 ∨ n ≤ i.toNatClampNeg) then iNx nx L (va_rf (f i.toNatClampNeg) :: S') h else none
    | some (.inl (3, n, .inr (.inr (.inr (.inr f))))) => if ¬ (i < 0 ∨ n ≤ i.toNatClampNeg) then iNx nx L (va_rf (f i.toNatClampNeg) :: S') h else none
    | _ => none)
  | _ => none
def iAst (nx : Nat) (L : List (Nat × Value)) (S : List Value) (h : List va_E) : Option iOut := match S with
  | .int x :: .int i :: .ref a :: S' => (match iLg h a with
    | some (.inl (0, n, .inl f)) => if ¬ (i < 0 ∨ n ≤ i.toNatClampNeg) then iNx nx L S' (h.set a (.inl (0, n, .inl (upd f i.toNatClampNeg x)))) else none
    | _ => none)
  | _ => none
def iAsl (nx : Nat) (L : List (Nat × Value)) (S : List Value) (h : List va_E) : Option iOut := match S with
  | .long x :: .int i :: .ref a :: S' => (match iLg h a with
    | some (.inl (1, n, .inr (.inl f))) => if ¬ (i < 0 ∨ n ≤ i.toNatClampNeg) then iNx nx L S' (h.set a (.inl (1, n, .inr (.inl (vp_updL f i.toNatClampNeg x))))) else none
    | _ => none)
  | _ => none
def iAsa (nx : Nat) (L : List (Nat × Value)) (S : List Value) (h : List va_E) : Option iOut := match S with
  | .ref x :: .int i :: .ref a :: S' => (match iLg h a, iLg h x with
    | some (.inl (2, n, .inr (.inr (.inr (.inr f))))), some (.inr (4, _)) => if ¬ (i < 0 ∨ n ≤ i.toNatClampNeg) then iNx nx L S' (h.set a (.inl (2, n, .inr (.inr (.inr (.inr (va_up f i.toNatClampNeg (some x)))))))) else none
    | some (.inl (3, n, .inr (.inr (.inr (.inr f))))), some (.inr (2, _)) => if ¬ (i < 0 ∨ n ≤ i.toNatClampNeg) then iNx nx L S' (h.set a (.inl (3, n, .inr (.inr (.inr (.inr (va_up f i.toNatClampNeg (some x)))))))) else none
    | _, _ => none)
  | _ => none
def iAlen (E : iExtT) (nx : Nat) (L : List (Nat × Value)) (S : List Value) (h : List va_E) : Option iOut := match S with
  | .ref a :: S' => (match iLg h a with
    | some (.inl (0, n, .inl _)) => iNx nx L (.int (Int32.ofNat n) :: S') h
    | some (.inl (1, n, .inr (.inl _))) => iNx nx L (.int (Int32.ofNat n) :: S') h
    | _ => none)
  | .retAddr a :: S' => (match E a with
    | some (n, _) => iNx nx L (.int (Int32.ofNat n) :: S') h
    | none => none)
  | _ => none
def iNewa (ty : ArrayType) (nx : Nat) (L : List (Nat × Value)) (S : List Value) (h : List va_E) : Option iOut := match ty, S with
  | .int, .int n :: S' => if ¬ n < 0 ∧ n.toNatClampNeg ≤ 1000 then iNx nx L (.ref h.length :: S') (h ++ [.inl (0, n.toNatClampNeg, .inl (fun _ => 0))]) else none
  | .long, .int n :: S' => if ¬ n < 0 ∧ n.toNatClampNeg ≤ 1000 then iNx nx L (.ref h.length :: S') (h ++ [.inl (1, n.toNatClampNeg, .inr (.inl (fun _ => 0)))]) else none
  | _, _ => none
def iNewq (nx res : Nat) (L : List (Nat × Value)) (S : List Value) (h : List va_E) : Option iOut := match S with
  | .int n :: S' => if ¬ n < 0 ∧ n.toNatClampNeg ≤ 1000 then iNx nx L (.ref h.length :: S') (h ++ [.inl (res, n.toNatClampNeg, .inr (.inr (.inr (.inr (fun _ => none)))))]) else none
  | _ => none
def iCat : List Value → Nat
  | [] => 0
  | v :: S => v.category + iCat S
def iCopy (nx : Nat) (L : List (Nat × Value)) (S : List Value) (h : List va_E) : Option iOut := match S with
  | .int n :: .int dp :: .ref a :: .int sp :: .ref a0 :: S' => bif !(Nat.ble (iCat S') 8) then none else (match iLg h a0, iLg h a with
    | some (.inl (0, n0, .inl f)), some (.inl (0, n1, .inl g)) => if (¬ sp < 0 ∧ ¬ dp < 0 ∧ ¬ n < 0) ∧ sp.toNatClampNeg + n.toNatClampNeg ≤ n0 ∧ dp.toNatClampNeg + n.toNatClampNeg ≤ n1 then iNx nx L S' (h.set a (.inl (0, n1, .inl (va_cpy f g sp.toNatClampNeg dp.toNatClampNeg n.toNatClampNeg)))) else none
    | _, _ => none)
  | _ => none
def iMax (nx : Nat) (L : List (Nat × Value)) (S : List Value) (h : List va_E) : Option iOut := match S with
  | .int y :: .int x :: S' => bif Nat.ble (iCat S') 8 then iNx nx L (.int (if x < y then y else x) :: S') h else none
  | _ => none
def iMin (nx : Nat) (L : List (Nat × Value)) (S : List Value) (h : List va_E) : Option iOut := match S with
  | .int y :: .int x :: S' => bif Nat.ble (iCat S') 8 then iNx nx L (.int (if y < x then y else x) :: S') h else none
  | _ => none
def iSw (pc : Nat) (dflt lo hi : Int) (offs : Array Int) (L : List (Nat × Value)) (S : List Value) (h : List va_E) : Option iOut := match S with
  | .int x :: S' => if x.toInt < lo ∨ hi < x.toInt then (if 0 ≤ (pc : Int) + dflt then iNx ((pc : Int) + dflt).toNat L S' h else none) else (match offs[(x.toInt - lo).toNat]? with
    | some off => if 0 ≤ (pc : Int) + off then iNx ((pc : Int) + off).toNat L S' h else none
    | none => none)
  | _ => none
def iCallS (k nx res : Nat) (L : List (Nat × Value)) (S : List Value) (h : List va_E) : Option iOut := match iTake k [] S with
  | some (as, S') => bif Nat.ble (iCat S') 8 then some (.inr (.inl (res, as, (nx, L, S', h)))) else none
  | none => none
def iCallI (k nx res : Nat) (L : List (Nat × Value)) (S : List Value) (h : List va_E) : Option iOut := match iTake k [] S with
  | some (.ref a :: as, S') => bif Nat.ble (iCat S') 8 then some (.inr (.inl (res, .ref a :: as, (nx, L, S', h)))) else none
  | _ => none
def iCallV (k kd nx res : Nat) (L : List (Nat × Value)) (S : List Value) (h : List va_E) : Option iOut := match iTake k [] S with
  | some (.ref a :: as, S') => (match iLg h a with
    | some (.inr (ci, _)) => bif Nat.beq (ci + 10) kd && Nat.ble (iCat S') 8 then some (.inr (.inl (res, .ref a :: as, (nx, L, S', h)))) else none
    | _ => none)
  | _ => none
def iOI (nx : Nat) (L : List (Nat × Value)) (S : List Value) (h : List va_E) : Option iOut := match S with
  | .ref _ :: S' => bif Nat.ble (iCat S') 8 then iNx nx L S' h else none
  | _ => none
/-- what an instruction does; np: how many values a call takes -/
def iEx (E : iExtT) (np nk : Nat → Nat) (ret : Option FieldType) (pc : Nat) (e : iEnt) (L : List (Nat × Value)) (S : List Value) (h : List va_E) : Option iOut := match e with
  | (ins, nx, res, val, _) => match ins with
    | .iconst _ => iNx nx L (val :: S) h
    | .bipush _ => iNx nx L (val :: S) h
    | .sipush _ => iNx nx L (val :: S) h
    | .lconst _ => iNx nx L (val :: S) h
    | .ldc _ => iNx nx L (val :: S) h
    | .ldc_w _ => iNx nx L (val :: S) h
    | .ldc2_w _ => iNx nx L (val :: S) h
    | .iload i => iLdI i nx L S h
    | .iload_n i => iLdI i.val nx L S h
    | .lload i => iLdL i nx L S h
    | .lload_n i => iLdL i.val nx L S h
    | .aload i => iLdA i nx L S h
    | .aload_n i => iLdA i.val nx L S h
    | .istore i => iStI i nx L S h
    | .istore_n i => iStI i.val nx L S h
    | .lstore i => iStL i nx L S h
    | .lstore_n i => iStL i.val nx L S h
    | .astore i => iStA i nx L S h
    | .astore_n i => iStA i.val nx L S h
    | .iinc i _ => (match iLget L i, val with
      | some (.int x), .int n => iLfl (iP1 i) L (fun L' => iNx nx ((i, .int (x + n)) :: L') S h)
      | _, _ => none)
    | .iadd => iBin (fun x y => x + y) nx L S h
    | .isub => iBin (fun x y => x - y) nx L S h
    | .imul => iBin (fun x y => x * y) nx L S h
    | .iand => iBin (fun x y => x &&& y) nx L S h
    | .ior => iBin (fun x y => x ||| y) nx L S h
    | .ixor => iBin (fun x y => x ^^^ y) nx L S h
    | .ishl => iBin (fun x y => x <<< (y &&& 31)) nx L S h
    | .ishr => iBin (fun x y => x >>> (y &&& 31)) nx L S h
    | .iushr => iBin (fun x y => (x.toUInt32 >>> (y.toUInt32 &&& Int32.toUInt32 31)).toInt32) nx L S h
    | .idiv => (match S with
      | .int y :: .int x :: S' => if ¬ y = 0 then iNx nx L (.int (x / y) :: S') h else none
      | _ => none)
    | .irem => (match S with
      | .int y :: .int x :: S' => if ¬ y = 0 then iNx nx L (.int (x - x / y * y) :: S') h else none
      | _ => none)
    | .ladd => iBil (fun x y => x + y) nx L S h
    | .lsub => iBil (fun x y => x - y) nx L S h
    | .lmul => iBil (fun x y => x * y) nx L S h
    | .lor => iBil (fun x y => x ||| y) nx L S h
    | .ldiv => (match S with
      | .long y :: .long x :: S' => if ¬ y = 0 then iNx nx L (.long (x / y) :: S') h else none
      | _ => none)
    | .lrem => (match S with
      | .long y :: .long x :: S' => if ¬ y = 0 then iNx nx L (.long (x - x / y * y) :: S') h else none
      | _ => none)
    | .lshl => (match S with
      | .int y :: .long x :: S' => iNx nx L (.long (x <<< (y.toInt64 &&& 63)) :: S') h
      | _ => none)
    | .lcmp => (match S with
      | .long y :: .long x :: S' => iNx nx L (.int (lg_cmp x y) :: S') h
      | _ => none)
    | .i2l => (match S with
      | .int x :: S' => iNx nx L (.long x.toInt64 :: S') h
      | _ => none)
    | .i2b => iUn (fun x => x.toInt8.toInt32) nx L S h
    | .i2s => iUn (fun x => x.toInt16.toInt32) nx L S h
    | .dup => (match S with
      | .int x :: S' => iNx nx L (.int x :: .int x :: S') h
      | .ref x :: S' => iNx nx L (.ref x :: .ref x :: S') h
      | _ => none)
    | .dup2 => (match S with
      | .int x :: .ref y :: S' => iNx nx L (.int x :: .ref y :: .int x :: .ref y :: S') h
      | _ => none)
    | .pop => (match S with
      | .int _ :: S' => iNx nx L S' h
      | .ref _ :: S' => iNx nx L S' h
      | _ => none)
    | .goto _ => iNx res L S h
    | .if_icmp cd _ => (match S with
      | .int y :: .int x :: S' => iCmp cd x y (iNx res L S' h) (iNx nx L S' h)
      | _ => none)
    | .ifCond cd _ => (match S with
      | .int x :: S' => iCmp cd x 0 (iNx res L S' h) (iNx nx L S' h)
      | _ => none)
    | .tableswitch dflt lo hi offs => iSw pc dflt lo hi offs L S h
    | .getfield _ => iGetf nx res L S h
    | .putfield _ => iPutf nx res L S h
    | .getstatic _ => iNx nx L (.retAddr 1 :: S) h
    | .iaload => iAld E nx L S h
    | .laload => iAll nx L S h
    | .aaload => iAla nx L S h
    | .iastore => iAst nx L S h
    | .lastore => iAsl nx L S h
    | .aastore => iAsa nx L S h
    | .arraylength => iAlen E nx L S h
    | .new _ => iNx nx L (.ref h.length :: S) (h ++ [.inr (res, iDfl res)])
    | .newarray ty => iNewa ty nx L S h
    | .anewarray _ => iNewq nx res L S h
    | .invokespecial _ => if res = 1000 then iOI nx L S h else iCallI (np res + 1) nx res L S h
    | .invokevirtual _ => iCallV (np res + 1) (nk res) nx res L S h
    | .invokestatic _ => if res = 1001 then iCopy nx L S h else if res = 1002 then iMax nx L S h else if res = 1003 then iMin nx L S h else iCallS (np res) nx res L S h
    | .ireturn => (match S, ret with
      | [.int x], some .int => some (.inr (.inr (some (.int x))))
      | [.int x], some .boolean => if x = 0 ∨ x = 1 then some (.inr (.inr (some (.int x)))) else none
      | _, _ => none)
    | .lreturn => (match S, ret with
      | [.long x], some .long => some (.inr (.inr (some (.long x))))
      | _, _ => none)
    | .return_ => (match S, ret with
      | [], none => some (.inr (.inr none))
      | _, _ => none)
    | _ => none
def iNp (P : Nat → Option iMeth) (n : Nat) : Nat := match P n with
  | some C => C.2.2.2.2.1
  | none => 0
def iNk (P : Nat → Option iMeth) (n : Nat) : Nat := match P n with
  | some C => C.2.2.2.2.2.1
  | none => 0
def iStep (E : iExtT) (P : Nat → Option iMeth) (M : iMeth) (c : iCfg) : Option iOut := match c with
  | (pc, L, S, h) => match iFetch M.2.2.2.2.2.2.2 pc with
    | some e => iEx E (iNp P) (iNk P) M.2.2.2.1 pc e L S h
    | none => none
def iRun (E : iExtT) (P : Nat → Option iMeth) : Nat → Nat → iMeth → iCfg → Option iRes
  | 0, _, _, _ => none
  | f + 1, d, M, c => match iStep E P M c with
    | none => none
    | some (.inl c') => iRun E P f d M c'
    | some (.inr (.inr r)) => some (r, c.2.2.2)
    | some (.inr (.inl (n, as, c'))) => match d with
      | 0 => none
      | d' + 1 => match P n with
        | none => none
        | some C => bif Nat.ble (iCat as) C.2.2.1 then (match iRun E P f d' C (0, lv_args 0 as, [], c'.2.2.2) with
          | none => none
          | some (r, h') => iRun E P f (d' + 1) M (c'.1, c'.2.1, r.toList ++ c'.2.2.1, h')) else none
