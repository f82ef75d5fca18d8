/-! the abstract machine: the instructions over a heap of cells that name each other by their places; what is proved of it is carried over to the machine in the next parts -/
abbrev am_AH : Type := List va_E
/-- pc, locals, stack, heap, new cells, new slots -/
abbrev am_CF : Type := Nat × List Value × List Value × am_AH × Nat × Nat
abbrev am_O : Type := Option Value ⊕ Nat
/-- what a step comes to: the next row of the frame; a call (method, arguments, what stays on the stack); an end -/
abbrev am_ST : Type := am_CF ⊕ ((Nat × List Value × List Value) ⊕ am_O)
def am_dead : Value := .retAddr 0
/-- a local is stored: what reached into its place is lost -/
def am_clr (lc : List Value) : Nat → List Value
  | 0 => lc
  | j + 1 => match lc[j]? with
    | some w => if w.category = 2 then lc.set j am_dead else lc
    | none => lc
def am_put (lc : List Value) (i : Nat) (v : Value) : List Value :=
  if v.category = 2 then ((am_clr lc i).set i v).set (i + 1) am_dead else (am_clr lc i).set i v
def am_args : List Value → List Value
  | [] => []
  | v :: r => if v.category = 2 then v :: am_dead :: am_args r else v :: am_args r
def am_ent (as : List Value) (n : Nat) : List Value := am_args as ++ List.replicate (n - (am_args as).length) am_dead
def am_sw (x : Int32) : List Nat → Nat → Nat
  | k :: t :: r, d => if x = Int32.ofNat k then t else am_sw x r d
  | _, d => d
/-- arithmetic, constants, the stack alone -/
def am_ar (i : Instr) (st : List Value) : Option (Prop × List Value) :=
  match i with
  | .iconst n => some (True, .int (Int32.ofInt n) :: st)
  | .bipush n => some (True, .int (Int8.ofInt n).toInt32 :: st)
  | .sipush n => some (True, .int (Int16.ofInt n).toInt32 :: st)
  | .lconst n => some (True, .long (Int64.ofNat (n : Nat)) :: st)
  | .fconst n => some (True, .float (if n = 0 then FP.fconst0 else if n = 1 then FP.fconst1 else FP.fconst2) :: st)
  | .dconst n => some (True, .double (if n = 0 then FP.dconst0 else FP.dconst1) :: st)
  | .iadd => match st with | .int y :: .int x :: r => some (True, .int (x + y) :: r) | _ => none
  | .isub => match st with | .int y :: .int x :: r => some (True, .int (x - y) :: r) | _ => none
  | .imul => match st with | .int y :: .int x :: r => some (True, .int (x * y) :: r) | _ => none
  | .idiv => match st with | .int y :: .int x :: r => some (¬ y = 0, .int (x / y) :: r) | _ => none
  | .irem => match st with | .int y :: .int x :: r => some (¬ y = 0, .int (x - x / y * y) :: r) | _ => none
  | .ineg => match st with | .int x :: r => some (True, .int (-x) :: r) | _ => none
  | .iand => match st with | .int y :: .int x :: r => some (True, .int (x &&& y) :: r) | _ => none
  | .ior => match st with | .int y :: .int x :: r => some (True, .int (x ||| y) :: r) | _ => none
  | .ixor => match st with | .int y :: .int x :: r => some (True, .int (x ^^^ y) :: r) | _ => none
  | .ishl => match st with | .int y :: .int x :: r => some (True, .int (x <<< (y &&& 31)) :: r) | _ => none
  | .ishr => match st with | .int y :: .int x :: r => some (True, .int (x >>> (y &&& 31)) :: r) | _ => none
  | .ladd => match st with | .long y :: .long x :: r => some (True, .long (x + y) :: r) | _ => none
  | .lsub => match st with | .long y :: .long x :: r => some (True, .long (x - y) :: r) | _ => none
  | .lmul => match st with | .long y :: .long x :: r => some (True, .long (x * y) :: r) | _ => none
  | .lshl => match st with | .int y :: .long x :: r => some (True, .long (x <<< (y.toInt64 &&& 63)) :: r) | _ => none
  | .lcmp => match st with | .long y :: .long x :: r => some (True, .int (lg_cmp x y) :: r) | _ => none
  | .i2l => match st with | .int x :: r => some (True, .long x.toInt64 :: r) | _ => none
  | .l2i => match st with | .long x :: r => some (True, .int x.toInt32 :: r) | _ => none
  | .i2f => match st with | .int x :: r => some (True, .float (FP.i2f x) :: r) | _ => none
  | .i2d => match st with | .int x :: r => some (True, .double (FP.i2d x) :: r) | _ => none
  | .l2d => match st with | .long x :: r => some (True, .double (FP.l2d x) :: r) | _ => none
  | .f2i => match st with | .float x :: r => some (True, .int (FP.f2i x) :: r) | _ => none
  | .d2l => match st with | .double x :: r => some (True, .long (FP.d2l x) :: r) | _ => none
  | .f2d => match st with | .float x :: r => some (vf_n64 (FP.f2d x), .double (FP.f2d x) :: r) | _ => none
  | .fsub => match st with | .float y :: .float x :: r => some (vf_n32 (FP.fsub x y), .float (FP.fsub x y) :: r) | _ => none
  | .fmul => match st with | .float y :: .float x :: r => some (vf_n32 (FP.fmul x y), .float (FP.fmul x y) :: r) | _ => none
  | .fdiv => match st with | .float y :: .float x :: r => some (vf_n32 (FP.fdiv x y), .float (FP.fdiv x y) :: r) | _ => none
  | .dsub => match st with | .double y :: .double x :: r => some (vf_n64 (FP.dsub x y), .double (FP.dsub x y) :: r) | _ => none
  | .dmul => match st with | .double y :: .double x :: r => some (vf_n64 (FP.dmul x y), .double (FP.dmul x y) :: r) | _ => none
  | .ddiv => match st with | .double y :: .double x :: r => some (vf_n64 (FP.ddiv x y), .double (FP.ddiv x y) :: r) | _ => none
  | .fcmp op => match st with | .float y :: .float x :: r => some (True, .int (Op.cmpValue (FP.fcmp x y) op) :: r) | _ => none
  | .dcmp op => match st with | .double y :: .double x :: r => some (True, .int (Op.cmpValue (FP.dcmp x y) op) :: r) | _ => none
  | .dup => match st with | v :: r => if v.category = 1 then some (True, v :: v :: r) else none | _ => none
  | .dup2 => match st with
    | v :: r => if v.category = 2 then some (True, v :: v :: r) else match r with
      | w :: r' => if v.category = 1 ∧ w.category = 1 then some (True, v :: w :: v :: w :: r') else none
      | _ => none
    | _ => none
  | .pop => match st with | v :: r => if v.category = 1 then some (True, r) else none | _ => none
  | _ => none
def am_ldI (lc : List Value) (k : Nat) : Option Value := match lc[k]? with | some (.int x) => some (.int x) | _ => none
def am_ldL (lc : List Value) (k : Nat) : Option Value := match lc[k]? with | some (.long x) => some (.long x) | _ => none
def am_ldF (lc : List Value) (k : Nat) : Option Value := match lc[k]? with | some (.float x) => some (.float x) | _ => none
def am_ldD (lc : List Value) (k : Nat) : Option Value := match lc[k]? with | some (.double x) => some (.double x) | _ => none
def am_ldA (lc : List Value) (k : Nat) : Option Value := match lc[k]? with | some (.ref x) => some (.ref x) | _ => none
/-- a local is loaded: value and the length of the instruction -/
def am_ld (i : Instr) (lc : List Value) : Option (Nat × Value) :=
  match i with
  | .iload k => (am_ldI lc k).map (fun v => (2, v))
  | .iload_n k => (am_ldI lc k).map (fun v => (1, v))
  | .lload k => (am_ldL lc k).map (fun v => (2, v))
  | .lload_n k => (am_ldL lc k).map (fun v => (1, v))
  | .fload_n k => (am_ldF lc k).map (fun v => (1, v))
  | .dload k => (am_ldD lc k).map (fun v => (2, v))
  | .dload_n k => (am_ldD lc k).map (fun v => (1, v))
  | .aload k => (am_ldA lc k).map (fun v => (2, v))
  | .aload_n k => (am_ldA lc k).map (fun v => (1, v))
  | _ => none
def am_st1 (lc : List Value) (k : Nat) (v : Value) (n : Nat) (r : List Value) : Option (Nat × List Value × List Value) := if k < lc.length then some (n, am_put lc k v, r) else none
def am_st2 (lc : List Value) (k : Nat) (v : Value) (n : Nat) (r : List Value) : Option (Nat × List Value × List Value) := if k + 1 < lc.length then some (n, am_put lc k v, r) else none
def am_sto (i : Instr) (lc st : List Value) : Option (Nat × List Value × List Value) :=
  match i with
  | .istore k => match st with | .int x :: r => am_st1 lc k (.int x) 2 r | _ => none
  | .istore_n k => match st with | .int x :: r => am_st1 lc k (.int x) 1 r | _ => none
  | .astore k => match st with | .ref x :: r => am_st1 lc k (.ref x) 2 r | _ => none
  | .astore_n k => match st with | .ref x :: r => am_st1 lc k (.ref x) 1 r | _ => none
  | .fstore_n k => match st with | .float x :: r => am_st1 lc k (.float x) 1 r | _ => none
  | .lstore k => match st with | .long x :: r => am_st2 lc k (.long x) 2 r | _ => none
  | .lstore_n k => match st with | .long x :: r => am_st2 lc k (.long x) 1 r | _ => none
  | .dstore k => match st with | .double x :: r => am_st2 lc k (.double x) 2 r | _ => none
  | .dstore_n k => match st with | .double x :: r => am_st2 lc k (.double x) 1 r | _ => none
  | .iinc k n => match lc[k]? with | some (.int x) => am_st1 lc k (.int (x + Int32.ofInt n)) 3 st | _ => none
  | _ => none
/-- branches: the next pc, the stack -/
def am_br (i : Instr) (au : List Nat) (pc : Nat) (st : List Value) : Option (Nat × List Value) :=
  match i with
  | .ifCond k _ => match st with
    | .int x :: r => (match k with
      | .eq => some (if x = 0 then au.headD 0 else pc + 3, r)
      | .ne => some (if x = 0 then pc + 3 else au.headD 0, r)
      | .lt => some (if x < 0 then au.headD 0 else pc + 3, r)
      | .ge => some (if 0 ≤ x then au.headD 0 else pc + 3, r)
      | .gt => some (if 0 < x then au.headD 0 else pc + 3, r)
      | .le => some (if x ≤ 0 then au.headD 0 else pc + 3, r))
    | _ => none
  | .if_icmp k _ => match st with
    | .int y :: .int x :: r => (match k with
      | .eq => some (if x = y then au.headD 0 else pc + 3, r)
      | .ne => some (if x = y then pc + 3 else au.headD 0, r)
      | .lt => some (if x < y then au.headD 0 else pc + 3, r)
      | .ge => some (if y ≤ x then au.headD 0 else pc + 3, r)
      | .gt => some (if y < x then au.headD 0 else pc + 3, r)
      | .le => some (if x ≤ y then au.headD 0 else pc + 3, r))
    | _ => none
  | .goto _ => some (au.headD 0, st)
  | .ifnull _ => match st with | .ref _ :: r => some (pc + 3, r) | _ => none
  | .ifnonnull _ => match st with | .ref _ :: r => some (au.headD 0, r) | _ => none
  | .tableswitch _ _ _ _ => match st with | .int x :: r => some (am_sw x au.tail (au.headD 0), r) | _ => none
  | .lookupswitch _ _ => match st with | .int x :: r => some (am_sw x au.tail (au.headD 0), r) | _ => none
  | _ => none
/-- the two rows of the class Tile -/
def am_low (j : Nat) : Int32 := ([0, 0, 0, 0, 0, 0, 0, 1, 1, 1, 1, 1, 1, 2, 2, 2, 2, 2, 3, 3, 3, 3, 4, 4, 4, 5, 5, 6] : List Int32).getD j 0
def am_high (j : Nat) : Int32 := ([0, 1, 2, 3, 4, 5, 6, 1, 2, 3, 4, 5, 6, 2, 3, 4, 5, 6, 3, 4, 5, 6, 4, 5, 6, 5, 6, 6] : List Int32).getD j 0
/-- reads and writes of the heap that exists: what must hold, the length of the instruction, the stack, the heap -/
def am_hp (xs : Nat → Int32) (L : Nat) (i : Instr) (au : List Nat) (st : List Value) (h : am_AH) : Option (Prop × Nat × List Value × am_AH) :=
  match i with
  | .getfield _ => match st, au with
    | .ref a :: r, ci :: k :: _ => (match h[a]? with
      | some (.inr (ci', fs)) => if ci' = ci then (match fs[k]? with | some v => some (True, 3, v :: r, h) | none => none) else none
      | _ => none)
    | _, _ => none
  | .putfield _ => match st, au with
    | v :: .ref a :: r, ci :: k :: kd :: _ => (match h[a]? with
      | some (.inr (ci', fs)) => if ci' = ci ∧ k < fs.length then (match kd, v with
        | 0, .int x => some (True, 3, r, h.set a (.inr (ci', fs.set k (.int x))))
        | 1, .long x => some (True, 3, r, h.set a (.inr (ci', fs.set k (.long x))))
        | 2, .int x => some (narrow .boolean (.int x) = .int x, 3, r, h.set a (.inr (ci', fs.set k (.int x))))
        | 3, .ref x => some (True, 3, r, h.set a (.inr (ci', fs.set k (.ref x))))
        | _, _ => none) else none
      | _ => none)
    | _, _ => none
  | .getstatic _ => match au with
    | p :: _ => if p = 1000000 ∨ p = 1000001 then some (True, 3, .ref p :: st, h) else none
    | _ => none
  | .iaload => match st with
    | .int j :: .ref a :: r => (match h[a]? with
      | some (.inl (0, n, .inl f)) => some (vp_in j n, 1, .int (f j.toNatClampNeg) :: r, h)
      | some _ => none
      | none => if a = 1000000 then some (vp_in j 28, 1, .int (am_low j.toNatClampNeg) :: r, h)
        else if a = 1000001 then some (vp_in j 28, 1, .int (am_high j.toNatClampNeg) :: r, h)
        else if a = 1000002 then some (vp_in j L, 1, .int (xs j.toNatClampNeg) :: r, h) else none)
    | _ => none
  | .arraylength => match st with
    | .ref a :: r => (match h[a]? with
      | some (.inl (_, n, _)) => some (True, 1, .int (Int32.ofNat n) :: r, h)
      | some _ => none
      | none => if a = 1000000 ∨ a = 1000001 then some (True, 1, .int 28 :: r, h)
        else if a = 1000002 then some (True, 1, .int (Int32.ofNat L) :: r, h) else none)
    | _ => none
  | .iastore => match st with
    | .int x :: .int j :: .ref a :: r => (match h[a]? with
      | some (.inl (0, n, .inl f)) => some (vp_in j n, 1, r, h.set a (.inl (0, n, .inl (upd f j.toNatClampNeg x))))
      | _ => none)
    | _ => none
  | .laload => match st with
    | .int j :: .ref a :: r => (match h[a]? with
      | some (.inl (1, n, .inr (.inl f))) => some (vp_in j n, 1, .long (f j.toNatClampNeg) :: r, h)
      | _ => none)
    | _ => none
  | .lastore => match st with
    | .long x :: .int j :: .ref a :: r => (match h[a]? with
      | some (.inl (1, n, .inr (.inl f))) => some (vp_in j n, 1, r, h.set a (.inl (1, n, .inr (.inl (vp_updL f j.toNatClampNeg x)))))
      | _ => none)
    | _ => none
  | .daload => match st with
    | .int j :: .ref a :: r => (match h[a]? with
      | some (.inl (2, n, .inr (.inr (.inr (.inl f))))) => some (vp_in j n, 1, .double (f j.toNatClampNeg) :: r, h)
      | _ => none)
    | _ => none
  | .dastore => match st with
    | .double x :: .int j :: .ref a :: r => (match h[a]? with
      | some (.inl (2, n, .inr (.inr (.inr (.inl f))))) => some (vp_in j n, 1, r, h.set a (.inl (2, n, .inr (.inr (.inr (.inl (vf_upd f j.toNatClampNeg x)))))))
      | _ => none)
    | _ => none
  | .aaload => match st with
    | .int j :: .ref a :: r => (match h[a]? with
      | some (.inl (3, n, .inr (.inr (.inr (.inr f))))) => (match f j.toNatClampNeg with
        | some q => some (vp_in j n, 1, .ref q :: r, h)
        | none => none)
      | _ => none)
    | _ => none
  | .aastore => match st with
    | .ref v :: .int j :: .ref a :: r => (match h[a]?, h[v]? with
      | some (.inl (3, n, .inr (.inr (.inr (.inr f))))), some (.inr (4, _)) => some (vp_in j n, 1, r, h.set a (.inl (3, n, .inr (.inr (.inr (.inr (va_up f j.toNatClampNeg (some v))))))))
      | _, _ => none)
    | _ => none
  | _ => none
/-- calls of what isn't the program's own, constants out of the pool -/
def am_sp (i : Instr) (au : List Nat) (st : List Value) (h : am_AH) : Option (Prop × Nat × List Value × am_AH) :=
  match i with
  | .invokestatic _ => match au with
    | 1000 :: _ => (match st with | .int y :: .int x :: r => if (r.map fun v => v.category).sum ≤ 8 then some (True, 3, .int (if x < y then y else x) :: r, h) else none | _ => none)
    | 1001 :: _ => (match st with | .int y :: .int x :: r => if (r.map fun v => v.category).sum ≤ 8 then some (True, 3, .int (if y < x then y else x) :: r, h) else none | _ => none)
    | 1002 :: _ => (match st with
      | .int n :: .int dp :: .ref a :: .int sp :: .ref b :: r => if (r.map fun v => v.category).sum ≤ 8 then (match h[b]?, h[a]? with
        | some (.inl (0, n0, .inl f)), some (.inl (0, n1, .inl g)) => some ((¬ sp < 0 ∧ ¬ dp < 0 ∧ ¬ n < 0 ∧ sp.toNatClampNeg + n.toNatClampNeg ≤ n0 ∧ dp.toNatClampNeg + n.toNatClampNeg ≤ n1), 3, r, h.set a (.inl (0, n1, .inl (va_cpy f g sp.toNatClampNeg dp.toNatClampNeg n.toNatClampNeg))))
        | _, _ => none) else none
      | _ => none)
    | _ => none
  | .invokespecial _ => match au with
    | 1003 :: _ => (match st with | .ref _ :: r => if (r.map fun v => v.category).sum ≤ 8 then some (True, 3, r, h) else none | _ => none)
    | _ => none
  | .ldc_w _ => match au with
    | 3 :: _ :: v :: _ => some (True, 3, .int (Int32.ofNat v) :: st, h)
    | 4 :: _ :: v :: _ => some (True, 3, .float (UInt32.ofNat v) :: st, h)
    | _ => none
  | .ldc2_w _ => match au with
    | 1 :: _ :: v :: _ => some (True, 3, .long (Int64.ofNat v) :: st, h)
    | 2 :: _ :: v :: _ => some (True, 3, .double (UInt64.ofNat v) :: st, h)
    | _ => none
  | .ldc _ => match au with
    | 3 :: _ :: v :: _ => some (True, 2, .int (Int32.ofNat v) :: st, h)
    | _ => none
  | _ => none

/-- no thing of the list is the place n -/
def am_nv (n : Nat) (l : List Value) : Bool := l.all (fun v => match v with | .ref a => !(a == n) | _ => true)
/-- the new place is named by nothing that there is -/
def am_fresh (n : Nat) (h : am_AH) : Bool := decide (n < 1000000) && h.all (fun e => match e with
  | .inr (_, fs) => am_nv n fs
  | .inl (_, m, .inr (.inr (.inr (.inr f)))) => (List.range m).all (fun j => !(f j == some n))
  | _ => true)
/-- all things of the list are places of before -/
def am_scp (n : Nat) (l : List Value) : Bool := l.all (fun v => match v with | .ref a => decide (a < n) || decide (1000000 ≤ a) | _ => true)
def am_dv (ds : String) : Value := if ds = "I" then .int 0 else if ds = "Z" then .int 0 else if ds = "J" then .long 0 else .null
/-- a new thing: what must hold, length, the stack, the heap, its slots -/
def am_al (i : Instr) (au : List Nat) (lc st : List Value) (h : am_AH) : Option (Prop × Nat × List Value × am_AH × Nat) :=
  match i with
  | .new _ => match au with
    | 0 :: ci :: _ => (match am_cls[ci]? with
      | some q => some (am_nv h.length lc = true ∧ am_nv h.length st = true ∧ am_fresh h.length h = true, 3, .ref h.length :: st, h ++ [.inr (ci, q.2.map (fun f => am_dv f.2.2.1))], q.2.length)
      | none => none)
    | _ => none
  | .newarray _ => match au, st with
    | tag :: _, .int n :: r => (match tag with
      | 0 => some (am_nv h.length lc = true ∧ am_nv h.length st = true ∧ am_fresh h.length h = true ∧ ¬ n < 0 ∧ n.toNatClampNeg ≤ 65536, 2, .ref h.length :: r, h ++ [.inl (0, n.toNatClampNeg, .inl (fun _ => 0))], n.toNatClampNeg)
      | 1 => some (am_nv h.length lc = true ∧ am_nv h.length st = true ∧ am_fresh h.length h = true ∧ ¬ n < 0 ∧ n.toNatClampNeg ≤ 65536, 2, .ref h.length :: r, h ++ [.inl (1, n.toNatClampNeg, .inr (.inl (fun _ => 0)))], n.toNatClampNeg)
      | 2 => some (am_nv h.length lc = true ∧ am_nv h.length st = true ∧ am_fresh h.length h = true ∧ ¬ n < 0 ∧ n.toNatClampNeg ≤ 65536, 2, .ref h.length :: r, h ++ [.inl (2, n.toNatClampNeg, .inr (.inr (.inr (.inl (fun _ => 0)))))], n.toNatClampNeg)
      | _ => none)
    | _, _ => none
  | .anewarray _ => match au, st with
    | 3 :: _, .int n :: r => some (am_nv h.length lc = true ∧ am_nv h.length st = true ∧ am_fresh h.length h = true ∧ ¬ n < 0 ∧ n.toNatClampNeg ≤ 65536, 3, .ref h.length :: r, h ++ [.inl (3, n.toNatClampNeg, .inr (.inr (.inr (.inr (fun _ => none)))))], n.toNatClampNeg)
    | _, _ => none
  | _ => none
/-- ends -/
def am_rt (ret : Option FieldType) (i : Instr) (st : List Value) : Option (Prop × Option Value) :=
  match i with
  | .ireturn => match st with | [.int v] => (match ret with | some .int => some (True, some (.int v)) | some .boolean => some (narrow .boolean (.int v) = .int v, some (.int v)) | _ => none) | _ => none
  | .lreturn => match st with | [.long v] => (match ret with | some .long => some (True, some (.long v)) | _ => none) | _ => none
  | .freturn => match st with | [.float v] => (match ret with | some .float => some (True, some (.float v)) | _ => none) | _ => none
  | .dreturn => match st with | [.double v] => (match ret with | some .double => some (True, some (.double v)) | _ => none) | _ => none
  | .areturn => match st with | [.ref v] => (match ret with | some (.object _) => some (True, some (.ref v)) | _ => none) | _ => none
  | .return_ => match st with | [] => (match ret with | none => some (True, none) | _ => none) | _ => none
  | _ => none
/-- calls of the program's own: method, arguments, what stays -/
def am_cl1 (i : Instr) (au : List Nat) (st : List Value) : Option (Nat × List Value × List Value) :=
  match i with
  | .invokestatic _ | .invokevirtual _ | .invokespecial _ => match au with
    | k :: n :: _ :: _ => if k < 1000 ∧ n ≤ st.length ∧ ((st.drop n).map fun v => v.category).sum ≤ 8 then some (k, (st.take n).reverse, st.drop n) else none
    | _ => none
  | _ => none
def am_step (xs : Nat → Int32) (L mc ms : Nat) (ret : Option FieldType) (ai : am_AI) (pc : Nat) (lc st : List Value) (h : am_AH) (c s : Nat) : Option (Prop × am_ST) :=
  match am_ar ai.1 st with
  | some (C, st') => some (C, .inl (pc + ai.2.1, lc, st', h, c, s))
  | none => match am_ld ai.1 lc with
  | some (n, v) => some (True, .inl (pc + n, lc, v :: st, h, c, s))
  | none => match am_sto ai.1 lc st with
  | some (n, lc', st') => some (True, .inl (pc + n, lc', st', h, c, s))
  | none => match am_br ai.1 ai.2.2 pc st with
  | some (pc', st') => some (True, .inl (pc', lc, st', h, c, s))
  | none => match am_hp xs L ai.1 ai.2.2 st h with
  | some (C, n, st', h') => some (C, .inl (pc + n, lc, st', h', c, s))
  | none => match am_sp ai.1 ai.2.2 st h with
  | some (C, n, st', h') => some (C, .inl (pc + n, lc, st', h', c, s))
  | none => match am_cl1 ai.1 ai.2.2 st with
  | some (k, as, r) => some (True, .inr (.inl (k, as, r)))
  | none => match am_rt ret ai.1 st with
  | some (C, v) => some (C, .inr (.inr (.inl v)))
  | none => match am_al ai.1 ai.2.2 lc st h with
  | some (C, n, st', h', z) => some (C ∧ c + 1 ≤ mc ∧ s + z ≤ ms, .inl (pc + n, lc, st', h', c + 1, s + z))
  | none => match ai.1, ai.2.2 with
  | .new _, 9 :: E :: _ => some (c + 1 ≤ mc ∧ s + 6 ≤ ms ∧ (st.map fun v => v.category).sum ≤ 8, .inr (.inr (.inr E)))
  | _, _ => none
/-- whose method it is that is called -/
def am_rcv (mi : am_MI) (as : List Value) (h : am_AH) : Bool :=
  match mi.2.1.1 with
  | 0 => true
  | 1 => (match as with
    | .ref a :: _ => (match h[a]? with
      | some (.inr (ci, _)) => (match am_cls[ci]? with
        | some q => q.1 == mi.1.1
        | none => false)
      | _ => false)
    | _ => false)
  | _ => (match as with
    | .ref _ :: _ => true
    | _ => false)
def am_hd : List Nat → Nat → Option (Nat × Nat)
  | e :: p :: i :: _ :: r, E => if e = E then some (p, i) else am_hd r E
  | _, _ => none
/-- from a row of a frame on, with the depth d and the room mc, ms: it comes to an end with Q -/
def am_w (xs : Nat → Int32) (L : Nat) : Nat → Nat → Nat → Nat → Nat → am_CF → (am_O → am_AH → Prop) → Prop
  | 0, _, _, _, _, _, _ => False
  | n + 1, d, k, mc, ms, (pc, lc, st, h, c, s), Q =>
    match am_pg[k]? with
    | none => False
    | some mi => match mi.2.2.lookup pc with
      | none => False
      | some ai => match am_step xs L mc ms mi.1.2.2.2.2 ai pc lc st h c s with
        | none => False
        | some (C, .inl cf) => C ∧ am_w xs L n d k mc ms cf Q
        | some (C, .inr (.inr (.inl v))) => C ∧ Q (.inl v) h
        | some (C, .inr (.inr (.inr E))) => C ∧ Q (.inr E) h
        | some (C, .inr (.inl (k', as, r))) => C ∧ ∃ d' mc' ms' mi', d = d' + 1 ∧ c + mc' ≤ mc ∧ s + ms' ≤ ms ∧ am_pg[k']? = some mi' ∧ (am_args as).length ≤ mi'.1.2.2.2.1 ∧ am_rcv mi' as h = true ∧
            am_w xs L n d' k' mc' ms' (0, am_ent as mi'.1.2.2.2.1, [], h, 0, 0) (fun o h' => match o with
              | .inl v => (h'.length = h.length ∨ (am_scp h.length lc && am_scp h.length r) = true) ∧ am_w xs L n d k mc ms (pc + 3, lc, v.toList ++ r, h', c + mc', s + ms') Q
              | .inr E => match am_hd (ai.2.2.drop 4) E with
                | some (p, i) => i < lc.length ∧ (h'.length = h.length ∨ am_scp h.length lc = true) ∧ am_w xs L n d k mc ms (p, am_put lc i am_dead, [], h', c + mc', s + ms') Q
                | none => ai.2.2.drop 4 = [] ∧ Q (.inr E) h')
