/-! the small machine: memory of numbered cells, one step of one method, what a run of it comes to -/
/-- shapes of the cells 4, 5 .. (a class's number, or 16 int[], 17 long[], 20 int[][], 21 Shelf[]; the length), what they hold: ints, longs, references -/
abbrev ro_Mm : Type := List (Nat × Nat) × (Nat → Nat → Int32) × (Nat → Nat → Int64) × (Nat → Nat → Value)
abbrev ro_Lv : Type := List (Nat × Value)
/-- the script: its length, its ints -/
abbrev ro_Sx : Type := Nat × (Nat → Int32)
abbrev ro_Po : Type := Option Value → ro_Mm → Prop
abbrev ro_K : Type := Nat → ro_Lv → List Value → ro_Mm → Nat × Nat → Prop
def ro_kd (M : ro_Mm) (c : Nat) : Nat × Nat := M.1.getD (c - 4) (99, 0)
def ro_up2 {α : Type} (f : Nat → Nat → α) (c j : Nat) (v : α) : Nat → Nat → α := fun a b => if a = c ∧ b = j then v else f a b
def ro_row {α : Type} (f : Nat → Nat → α) (c : Nat) (g : Nat → α) : Nat → Nat → α := fun a b => if a = c then g b else f a b
def ro_sI (M : ro_Mm) (c j : Nat) (v : Int32) : ro_Mm := (M.1, ro_up2 M.2.1 c j v, M.2.2.1, M.2.2.2)
def ro_sJ (M : ro_Mm) (c j : Nat) (v : Int64) : ro_Mm := (M.1, M.2.1, ro_up2 M.2.2.1 c j v, M.2.2.2)
def ro_sR (M : ro_Mm) (c j : Nat) (v : Value) : ro_Mm := (M.1, M.2.1, M.2.2.1, ro_up2 M.2.2.2 c j v)
/-- a new cell, of a shape, empty -/
def ro_new (M : ro_Mm) (s : Nat × Nat) : ro_Mm := (M.1 ++ [s], ro_row M.2.1 (M.1.length + 4) (fun _ => 0), ro_row M.2.2.1 (M.1.length + 4) (fun _ => 0), ro_row M.2.2.2 (M.1.length + 4) (fun _ => .null))
/-- a grid: the outer row, then the inner ones -/
def ro_grid (M : ro_Mm) (n k : Nat) : ro_Mm := (M.1 ++ (20, n) :: List.replicate n (16, k), fun a b => if M.1.length + 4 ≤ a then 0 else M.2.1 a b, M.2.2.1, fun a b => if a = M.1.length + 4 then (if b < n then .ref (M.1.length + 5 + b) else .null) else M.2.2.2 a b)
def ro_tbl (c : Nat) : List Int32 := match c with
  | 1 => [20, 20, 12, 20, 4, 11, 12]
  | 2 => [3, 0, 6]
  | _ => []
def ro_xl (X : ro_Sx) (c : Nat) : Nat := match c with
  | 0 => X.1
  | 1 => 7
  | 2 => 3
  | _ => 0
def ro_xv (X : ro_Sx) (c j : Nat) : Int32 := match c with
  | 0 => X.2 j
  | c => (ro_tbl c).getD j 0
def ro_ld (lv : ro_Lv) (i : Nat) : Option Value := (lv.find? (fun q => q.1 == i)).map (fun q => q.2)
def ro_s1 (lv : ro_Lv) (i : Nat) (v : Value) : ro_Lv := (i, v) :: lv.filter (fun q => !(q.1 == i) && !(q.1 + 1 == i && q.2.category == 2))
def ro_s2 (lv : ro_Lv) (i : Nat) (v : Value) : ro_Lv := (i, v) :: lv.filter (fun q => !(q.1 == i) && (!(q.1 == i + 1) && !(q.1 + 1 == i && q.2.category == 2)))
def ro_pI (st : List Value) (f : Int32 → List Value → Prop) : Prop := match st with
  | .int x :: r => f x r
  | _ => False
def ro_pJ (st : List Value) (f : Int64 → List Value → Prop) : Prop := match st with
  | .long x :: r => f x r
  | _ => False
def ro_pR (st : List Value) (f : Nat → List Value → Prop) : Prop := match st with
  | .ref x :: r => f x r
  | _ => False
def ro_pD (st : List Value) (f : UInt64 → List Value → Prop) : Prop := match st with
  | .double x :: r => f x r
  | _ => False
/-- a reference or null -/
def ro_pQ (st : List Value) (f : Value → List Value → Prop) : Prop := match st with
  | .ref x :: r => f (.ref x) r
  | .null :: r => f .null r
  | _ => False
def ro_lI (v : Option Value) (f : Int32 → Prop) : Prop := match v with
  | some (.int x) => f x
  | _ => False
def ro_lJ (v : Option Value) (f : Int64 → Prop) : Prop := match v with
  | some (.long x) => f x
  | _ => False
def ro_lD (v : Option Value) (f : UInt64 → Prop) : Prop := match v with
  | some (.double x) => f x
  | _ => False
def ro_lQ (v : Option Value) (f : Value → Prop) : Prop := match v with
  | some (.ref x) => f (.ref x)
  | some .null => f .null
  | _ => False
/-- a jump -/
def ro_go (pc : Nat) (off : Int) (f : Nat → Prop) : Prop := 0 ≤ (pc : Int) + off ∧ f ((pc : Int) + off).toNat
def ro_nf (ci : Nat) : Nat := match ro_cl[ci]? with
  | some q => q.2.2
  | none => 0
def ro_gf (M : ro_Mm) (t : FieldType) (c j : Nat) : Value := match t with
  | .long => .long (M.2.2.1 c j)
  | .object _ => M.2.2.2 c j
  | .array _ => M.2.2.2 c j
  | _ => .int (M.2.1 c j)
/-- what a field may be given: the memory with it -/
def ro_pf (M : ro_Mm) (t : FieldType) (c j : Nat) (v : Value) (f : ro_Mm → Prop) : Prop := match t, v with
  | .long, .long x => f (ro_sJ M c j x)
  | .int, .int x => f (ro_sI M c j x)
  | .boolean, .int x => (x = 0 ∨ x = 1) ∧ f (ro_sI M c j x)
  | .object _, .ref q => f (ro_sR M c j (.ref q))
  | .array _, .ref q => f (ro_sR M c j (.ref q))
  | _, _ => False
def ro_pV (st : List Value) (f : Value → List Value → Prop) : Prop := match st with
  | v :: r => f v r
  | _ => False
def ro_cat (r : List Value) : Nat := (r.map fun v => v.category).sum
/-- what a method makes: cells, slots -/
def ro_lim (y : Nat) : Nat × Nat := match y with
  | 0 => (158, 77230)
  | 1 => (10, 48)
  | 2 => (2, 12)
  | 3 => (5, 489)
  | 4 => (1, 60)
  | 5 => (6, 74)
  | 6 => (5, 34)
  | 7 => (5, 32)
  | 8 => (4, 160)
  | 9 => (2, 74)
  | 10 => (100, 75854)
  | 11 => (4, 32768)
  | 196 => (1, 19)
  | 201 => (1, 10)
  | 205 => (1, 10)
  | 206 => (600000, 7302250)
  | _ => (0, 0)
/-- a call's condition: the operands below, the room -/
def ro_cc (mx cs : Nat × Nat) (y : Nat) (r : List Value) (f : Prop) : Prop := ro_cat r ≤ 8 ∧ cs.1 + (ro_lim y).1 ≤ mx.1 ∧ cs.2 + (ro_lim y).2 ≤ mx.2 ∧ f
/-- a call of an object's method y: its arguments, its object, the rest -/
def ro_cv (kd : Option Nat) (cl : Nat → List Value → ro_Mm → ro_Po → Prop) (mx : Nat × Nat) (y : Nat) (pc : Nat) (lv : ro_Lv) (st : List Value) (M : ro_Mm) (cs : Nat × Nat) (k : ro_K) : Prop :=
  (ro_m y).2.2.2.2.2.1 ≤ st.length ∧ ro_pR (st.drop (ro_m y).2.2.2.2.2.1) (fun c r => (∀ q, kd = some q → 4 ≤ c ∧ (ro_kd M c).1 = q) ∧ ro_cc mx cs y r (cl y (.ref c :: (st.take (ro_m y).2.2.2.2.2.1).reverse) M (fun v M' => k (pc + 3) lv (v.toList ++ r) M' (cs.1 + (ro_lim y).1, cs.2 + (ro_lim y).2))))
def ro_csm (cl : Nat → List Value → ro_Mm → ro_Po → Prop) (mx : Nat × Nat) (y : Nat) (pc : Nat) (lv : ro_Lv) (st : List Value) (M : ro_Mm) (cs : Nat × Nat) (k : ro_K) : Prop :=
  (ro_m y).2.2.2.2.2.1 ≤ st.length ∧ ro_cc mx cs y (st.drop (ro_m y).2.2.2.2.2.1) (cl y (st.take (ro_m y).2.2.2.2.2.1).reverse M (fun v M' => k (pc + 3) lv (v.toList ++ st.drop (ro_m y).2.2.2.2.2.1) M' (cs.1 + (ro_lim y).1, cs.2 + (ro_lim y).2)))
/-- arraycopy of ints or of longs -/
def ro_ac (pc : Nat) (lv : ro_Lv) (st : List Value) (M : ro_Mm) (cs : Nat × Nat) (k : ro_K) : Prop :=
  ro_pI st fun n st => ro_pI st fun dp st => ro_pR st fun c1 st => ro_pI st fun sp st => ro_pR st fun c0 st =>
    ro_cat st ≤ 8 ∧ 4 ≤ c0 ∧ 4 ≤ c1 ∧ ¬ sp < 0 ∧ ¬ dp < 0 ∧ ¬ n < 0 ∧ sp.toNatClampNeg + n.toNatClampNeg ≤ (ro_kd M c0).2 ∧ dp.toNatClampNeg + n.toNatClampNeg ≤ (ro_kd M c1).2 ∧
      (((ro_kd M c0).1 = 16 ∧ (ro_kd M c1).1 = 16 ∧ k (pc + 3) lv st (M.1, ro_row M.2.1 c1 (va_cpy (M.2.1 c0) (M.2.1 c1) sp.toNatClampNeg dp.toNatClampNeg n.toNatClampNeg), M.2.2.1, M.2.2.2) cs) ∨
       ((ro_kd M c0).1 = 17 ∧ (ro_kd M c1).1 = 17 ∧ k (pc + 3) lv st (M.1, M.2.1, ro_row M.2.2.1 c1 (va_cpy (M.2.2.1 c0) (M.2.2.1 c1) sp.toNatClampNeg dp.toNatClampNeg n.toNatClampNeg), M.2.2.2) cs))
def ro_math (a : Nat) (pc : Nat) (lv : ro_Lv) (st : List Value) (M : ro_Mm) (cs : Nat × Nat) (k : ro_K) : Prop := match a with
  | 0 => ro_pI st fun y st => ro_pI st fun x st => ro_cat st ≤ 8 ∧ k (pc + 3) lv (.int (if x < y then y else x) :: st) M cs
  | 1 => ro_pI st fun y st => ro_pI st fun x st => ro_cat st ≤ 8 ∧ k (pc + 3) lv (.int (if y < x then y else x) :: st) M cs
  | 2 => ro_pJ st fun y st => ro_pJ st fun x st => ro_cat st ≤ 8 ∧ k (pc + 3) lv (.long (if y < x then x else y) :: st) M cs
  | _ => False
def ro_if (c : Jvm.ClassFile.Cond) (x y : Int32) (t f : Prop) : Prop := match c with
  | .eq => (x = y → t) ∧ (¬ x = y → f)
  | .ne => (¬ x = y → t) ∧ (x = y → f)
  | .lt => (x < y → t) ∧ (¬ x < y → f)
  | .ge => (y ≤ x → t) ∧ (¬ y ≤ x → f)
  | .gt => (y < x → t) ∧ (¬ y < x → f)
  | .le => (x ≤ y → t) ∧ (¬ x ≤ y → f)
/-- an int out of a row of kind q: the read-only ones (below 4) are of kind 16 -/
def ro_rd (X : ro_Sx) (M : ro_Mm) (q c : Nat) (i : Int32) (f : Int32 → Prop) : Prop :=
  (c < 4 → q = 16 ∧ vp_in i (ro_xl X c) ∧ f (ro_xv X c i.toNatClampNeg)) ∧ (4 ≤ c → (ro_kd M c).1 = q ∧ vp_in i (ro_kd M c).2 ∧ f (M.2.1 c i.toNatClampNeg))
def ro_wr (M : ro_Mm) (q c : Nat) (i : Int32) (f : Prop) : Prop := 4 ≤ c ∧ (ro_kd M c).1 = q ∧ vp_in i (ro_kd M c).2 ∧ f
def ro_al (X : ro_Sx) (M : ro_Mm) (c : Nat) (f : Int32 → Prop) : Prop := (c < 4 → c < 3 ∧ f (Int32.ofNat (ro_xl X c))) ∧ (4 ≤ c → 16 ≤ (ro_kd M c).1 ∧ (ro_kd M c).1 ≤ 21 ∧ ((ro_kd M c).1 ≠ 18 ∧ (ro_kd M c).1 ≠ 19) ∧ f (Int32.ofNat (ro_kd M c).2))
def ro_ak (t : ArrayType) : Nat := match t with
  | .int => 16
  | .long => 17
  | _ => 99
/-- making something: the room -/
def ro_mk (mx cs : Nat × Nat) (a b : Nat) (f : Nat × Nat → Prop) : Prop := cs.1 + a ≤ mx.1 ∧ cs.2 + b ≤ mx.2 ∧ f (cs.1 + a, cs.2 + b)
def ro_ki (own x : Nat) (f : Int32 → Prop) : Prop := match ro_KI.find? (fun e => e.1 == own && e.2.1 == x) with
  | some e => f e.2.2.1
  | none => False
def ro_kj (own x : Nat) (f : Int64 → Prop) : Prop := match ro_KJ.find? (fun e => e.1 == own && e.2.1 == x) with
  | some e => f e.2.2.1
  | none => False
def ro_kx (own x : Nat) (f : UInt64 → Prop) : Prop := match ro_KX.find? (fun e => e.1 == own && e.2.1 == x) with
  | some e => f e.2.2.1
  | none => False
/-- a double without its sign -/
def ro_abs (x : UInt64) : UInt64 := x &&& 0x7fffffffffffffff
/-- a row of ints, once more -/
def ro_cpy (M : ro_Mm) (c : Nat) : ro_Mm := (M.1 ++ [ro_kd M c], ro_row M.2.1 (M.1.length + 4) (M.2.1 c), ro_row M.2.2.1 (M.1.length + 4) (fun _ => 0), ro_row M.2.2.2 (M.1.length + 4) (fun _ => .null))
def ro_sw (lo hi d : Int) (offs : Array Int) (pc : Nat) (x : Int32) (f : Nat → Prop) : Prop :=
  ((x.toInt < lo ∨ hi < x.toInt) → ro_go pc d f) ∧ (¬ (x.toInt < lo ∨ hi < x.toInt) → match offs[(x.toInt - lo).toNat]? with
    | some o => ro_go pc o f
    | none => False)
/-- a final field -/
def ro_fin (a b : Nat) : Bool := match ro_cl[a]? with
  | some q => (q.2.1 b).2.2.2
  | none => true
/-- one instruction: k is what goes on -/
def ro_step (cl : Nat → List Value → ro_Mm → ro_Po → Prop) (X : ro_Sx) (mx : Nat × Nat) (own nL : Nat) (ini : Bool) (pc : Nat) (lv : ro_Lv) (st : List Value) (M : ro_Mm) (cs : Nat × Nat) (k : ro_K) (i : Instr) (a b : Nat) : Prop := match i with
  | .iconst n => k (pc + 1) lv (.int (Int32.ofInt n) :: st) M cs
  | .bipush n => k (pc + 2) lv (.int (Int8.ofInt n).toInt32 :: st) M cs
  | .sipush n => k (pc + 3) lv (.int (Int16.ofInt n).toInt32 :: st) M cs
  | .lconst n => k (pc + 1) lv (.long (Int64.ofNat (n : Nat)) :: st) M cs
  | .ldc x => ro_ki own x fun v => k (pc + 2) lv (.int v :: st) M cs
  | .ldc_w x => ro_ki own x fun v => k (pc + 3) lv (.int v :: st) M cs
  | .ldc2_w x => match a with
      | 0 => ro_kj own x fun v => k (pc + 3) lv (.long v :: st) M cs
      | _ => ro_kx own x fun v => k (pc + 3) lv (.double v :: st) M cs
  | .dconst n => k (pc + 1) lv (.double (if n = 0 then FP.dconst0 else FP.dconst1) :: st) M cs
  | .dload_n n => ro_lD (ro_ld lv n) fun x => k (pc + 1) lv (.double x :: st) M cs
  | .dload n => ro_lD (ro_ld lv n) fun x => k (pc + 2) lv (.double x :: st) M cs
  | .dstore_n n => ro_pD st fun x st => (n : Nat) + 1 < nL ∧ k (pc + 1) (ro_s2 lv n (.double x)) st M cs
  | .dstore n => ro_pD st fun x st => n + 1 < nL ∧ k (pc + 2) (ro_s2 lv n (.double x)) st M cs
  | .dadd => ro_pD st fun y st => ro_pD st fun x st => vf_n64 (FP.dadd x y) ∧ k (pc + 1) lv (.double (FP.dadd x y) :: st) M cs
  | .dsub => ro_pD st fun y st => ro_pD st fun x st => vf_n64 (FP.dsub x y) ∧ k (pc + 1) lv (.double (FP.dsub x y) :: st) M cs
  | .dmul => ro_pD st fun y st => ro_pD st fun x st => vf_n64 (FP.dmul x y) ∧ k (pc + 1) lv (.double (FP.dmul x y) :: st) M cs
  | .ddiv => ro_pD st fun y st => ro_pD st fun x st => vf_n64 (FP.ddiv x y) ∧ k (pc + 1) lv (.double (FP.ddiv x y) :: st) M cs
  | .dcmp op => ro_pD st fun y st => ro_pD st fun x st => k (pc + 1) lv (.int (Op.cmpValue (FP.dcmp x y) op) :: st) M cs
  | .i2d => ro_pI st fun x st => k (pc + 1) lv (.double (FP.i2d x) :: st) M cs
  | .l2d => ro_pJ st fun x st => k (pc + 1) lv (.double (FP.l2d x) :: st) M cs
  | .checkcast _ => ro_pR st fun c st => 4 ≤ c ∧ (ro_kd M c).1 = 16 ∧ k (pc + 3) lv (.ref c :: st) M cs
  | .aconst_null => k (pc + 1) lv (.null :: st) M cs
  | .iload_n n => ro_lI (ro_ld lv n) fun x => k (pc + 1) lv (.int x :: st) M cs
  | .iload n => ro_lI (ro_ld lv n) fun x => k (pc + 2) lv (.int x :: st) M cs
  | .lload_n n => ro_lJ (ro_ld lv n) fun x => k (pc + 1) lv (.long x :: st) M cs
  | .lload n => ro_lJ (ro_ld lv n) fun x => k (pc + 2) lv (.long x :: st) M cs
  | .aload_n n => ro_lQ (ro_ld lv n) fun x => k (pc + 1) lv (x :: st) M cs
  | .aload n => ro_lQ (ro_ld lv n) fun x => k (pc + 2) lv (x :: st) M cs
  | .istore_n n => ro_pI st fun x st => (n : Nat) < nL ∧ k (pc + 1) (ro_s1 lv n (.int x)) st M cs
  | .istore n => ro_pI st fun x st => n < nL ∧ k (pc + 2) (ro_s1 lv n (.int x)) st M cs
  | .lstore_n n => ro_pJ st fun x st => (n : Nat) + 1 < nL ∧ k (pc + 1) (ro_s2 lv n (.long x)) st M cs
  | .lstore n => ro_pJ st fun x st => n + 1 < nL ∧ k (pc + 2) (ro_s2 lv n (.long x)) st M cs
  | .astore_n n => ro_pQ st fun x st => (n : Nat) < nL ∧ k (pc + 1) (ro_s1 lv n x) st M cs
  | .astore n => ro_pQ st fun x st => n < nL ∧ k (pc + 2) (ro_s1 lv n x) st M cs
  | .iinc n d => ro_lI (ro_ld lv n) fun x => n < nL ∧ k (pc + 3) (ro_s1 lv n (.int (x + Int32.ofInt d))) st M cs
  | .iadd => ro_pI st fun y st => ro_pI st fun x st => k (pc + 1) lv (.int (x + y) :: st) M cs
  | .isub => ro_pI st fun y st => ro_pI st fun x st => k (pc + 1) lv (.int (x - y) :: st) M cs
  | .imul => ro_pI st fun y st => ro_pI st fun x st => k (pc + 1) lv (.int (x * y) :: st) M cs
  | .iand => ro_pI st fun y st => ro_pI st fun x st => k (pc + 1) lv (.int (x &&& y) :: st) M cs
  | .ior => ro_pI st fun y st => ro_pI st fun x st => k (pc + 1) lv (.int (x ||| y) :: st) M cs
  | .ixor => ro_pI st fun y st => ro_pI st fun x st => k (pc + 1) lv (.int (x ^^^ y) :: st) M cs
  | .idiv => ro_pI st fun y st => ro_pI st fun x st => ¬ y = 0 ∧ k (pc + 1) lv (.int (x / y) :: st) M cs
  | .irem => ro_pI st fun y st => ro_pI st fun x st => ¬ y = 0 ∧ k (pc + 1) lv (.int (x - x / y * y) :: st) M cs
  | .ineg => ro_pI st fun x st => k (pc + 1) lv (.int (-x) :: st) M cs
  | .ishl => ro_pI st fun y st => ro_pI st fun x st => k (pc + 1) lv (.int (x <<< (y &&& 31)) :: st) M cs
  | .ishr => ro_pI st fun y st => ro_pI st fun x st => k (pc + 1) lv (.int (x >>> (y &&& 31)) :: st) M cs
  | .iushr => ro_pI st fun y st => ro_pI st fun x st => k (pc + 1) lv (.int (x.toUInt32 >>> (y.toUInt32 &&& Int32.toUInt32 31)).toInt32 :: st) M cs
  | .ladd => ro_pJ st fun y st => ro_pJ st fun x st => k (pc + 1) lv (.long (x + y) :: st) M cs
  | .lmul => ro_pJ st fun y st => ro_pJ st fun x st => k (pc + 1) lv (.long (x * y) :: st) M cs
  | .land => ro_pJ st fun y st => ro_pJ st fun x st => k (pc + 1) lv (.long (x &&& y) :: st) M cs
  | .lor => ro_pJ st fun y st => ro_pJ st fun x st => k (pc + 1) lv (.long (x ||| y) :: st) M cs
  | .lxor => ro_pJ st fun y st => ro_pJ st fun x st => k (pc + 1) lv (.long (x ^^^ y) :: st) M cs
  | .ldiv => ro_pJ st fun y st => ro_pJ st fun x st => ¬ y = 0 ∧ k (pc + 1) lv (.long (x / y) :: st) M cs
  | .lrem => ro_pJ st fun y st => ro_pJ st fun x st => ¬ y = 0 ∧ k (pc + 1) lv (.long (x - x / y * y) :: st) M cs
  | .lshl => ro_pI st fun y st => ro_pJ st fun x st => k (pc + 1) lv (.long (x <<< (y.toInt64 &&& 63)) :: st) M cs
  | .lshr => ro_pI st fun y st => ro_pJ st fun x st => k (pc + 1) lv (.long (x >>> (y.toInt64 &&& 63)) :: st) M cs
  | .lushr => ro_pI st fun y st => ro_pJ st fun x st => k (pc + 1) lv (.long (x.toUInt64 >>> (y.toInt64.toUInt64 &&& Int64.toUInt64 63)).toInt64 :: st) M cs
  | .lcmp => ro_pJ st fun y st => ro_pJ st fun x st => k (pc + 1) lv (.int (lg_cmp x y) :: st) M cs
  | .i2l => ro_pI st fun x st => k (pc + 1) lv (.long x.toInt64 :: st) M cs
  | .l2i => ro_pJ st fun x st => k (pc + 1) lv (.int x.toInt32 :: st) M cs
  | .i2b => ro_pI st fun x st => k (pc + 1) lv (.int x.toInt8.toInt32 :: st) M cs
  | .i2s => ro_pI st fun x st => k (pc + 1) lv (.int x.toInt16.toInt32 :: st) M cs
  | .dup => ro_pV st fun x st => x.category = 1 ∧ k (pc + 1) lv (x :: x :: st) M cs
  | .dup2 => ro_pV st fun x st => ro_pV st fun z st => x.category = 1 ∧ z.category = 1 ∧ k (pc + 1) lv (x :: z :: x :: z :: st) M cs
  | .pop => ro_pV st fun x st => x.category = 1 ∧ k (pc + 1) lv st M cs
  | .goto d => ro_go pc d fun t => k t lv st M cs
  | .ifCond c d => ro_pI st fun x st => ro_go pc d fun t => ro_if c x 0 (k t lv st M cs) (k (pc + 3) lv st M cs)
  | .if_icmp c d => ro_pI st fun y st => ro_pI st fun x st => ro_go pc d fun t => ro_if c x y (k t lv st M cs) (k (pc + 3) lv st M cs)
  | .ifnull d => ro_pQ st fun x st => ro_go pc d fun t => (x = .null → k t lv st M cs) ∧ (¬ x = .null → k (pc + 3) lv st M cs)
  | .ifnonnull d => ro_pQ st fun x st => ro_go pc d fun t => (x = .null → k (pc + 3) lv st M cs) ∧ (¬ x = .null → k t lv st M cs)
  | .tableswitch d lo hi offs => ro_pI st fun x st => ro_sw lo hi d offs pc x fun t => k t lv st M cs
  | .lookupswitch d ps => ro_pI st fun x st => (ps.toList.zip (ps.toList.drop 1)).all (fun (a, next) => a.1 < next.1) = true ∧ ro_go pc (Op.lookupswitch.offset ps.toList d x.toInt) fun t => k t lv st M cs
  | .getfield _ => ro_pR st fun c st => 4 ≤ c ∧ (ro_kd M c).1 = a ∧ k (pc + 3) lv (ro_gf M (ro_ty a b) c b :: st) M cs
  | .putfield _ => ro_pV st fun v st => ro_pR st fun c st => 4 ≤ c ∧ (ro_kd M c).1 = a ∧ (ro_fin a b = true → ini = true ∧ own = a) ∧ ro_pf M (ro_ty a b) c b v fun M' => k (pc + 3) lv st M' cs
  | .getstatic _ => k (pc + 3) lv (.ref a :: st) M cs
  | .iaload => ro_pI st fun i st => ro_pR st fun c st => ro_rd X M 16 c i fun v => k (pc + 1) lv (.int v :: st) M cs
  | .laload => ro_pI st fun i st => ro_pR st fun c st => ro_wr M 17 c i (k (pc + 1) lv (.long (M.2.2.1 c i.toNatClampNeg) :: st) M cs)
  | .aaload => ro_pI st fun i st => ro_pR st fun c st => 4 ≤ c ∧ ((ro_kd M c).1 = 20 ∨ (ro_kd M c).1 = 21) ∧ vp_in i (ro_kd M c).2 ∧ ro_lQ (some (M.2.2.2 c i.toNatClampNeg)) fun v => k (pc + 1) lv (v :: st) M cs
  | .iastore => ro_pI st fun x st => ro_pI st fun i st => ro_pR st fun c st => ro_wr M 16 c i (k (pc + 1) lv st (ro_sI M c i.toNatClampNeg x) cs)
  | .lastore => ro_pJ st fun x st => ro_pI st fun i st => ro_pR st fun c st => ro_wr M 17 c i (k (pc + 1) lv st (ro_sJ M c i.toNatClampNeg x) cs)
  | .aastore => ro_pR st fun x st => ro_pI st fun i st => ro_pR st fun c st => 4 ≤ x ∧ (ro_kd M x).1 = 9 ∧ ro_wr M 21 c i (k (pc + 1) lv st (ro_sR M c i.toNatClampNeg (.ref x)) cs)
  | .arraylength => ro_pR st fun c st => ro_al X M c fun v => k (pc + 1) lv (.int v :: st) M cs
  | .new _ => ro_mk mx cs 1 (ro_nf a) fun cs' => k (pc + 3) lv (.ref (M.1.length + 4) :: st) (ro_new M (a, ro_nf a)) cs'
  | .newarray t => ro_pI st fun n st => ¬ n < 0 ∧ n.toNatClampNeg ≤ 60000 ∧ ro_ak t < 99 ∧ ro_mk mx cs 1 n.toNatClampNeg fun cs' => k (pc + 2) lv (.ref (M.1.length + 4) :: st) (ro_new M (ro_ak t, n.toNatClampNeg)) cs'
  | .anewarray x => ro_pI st fun n st => ro_CL.any (fun e => e.1 == own && e.2.1 == x && e.2.2.1 == 9) = true ∧ ¬ n < 0 ∧ n.toNatClampNeg ≤ 60000 ∧ ro_mk mx cs 1 n.toNatClampNeg fun cs' => k (pc + 3) lv (.ref (M.1.length + 4) :: st) (ro_new M (21, n.toNatClampNeg)) cs'
  | .multianewarray x dm => ro_pI st fun n st => ro_pI st fun m st => dm = 2 ∧ ro_MM own x = true ∧ ¬ m < 0 ∧ ¬ n < 0 ∧ m.toNatClampNeg ≤ 60000 ∧ n.toNatClampNeg ≤ 60000 ∧ ro_mk mx cs (1 + m.toNatClampNeg) (m.toNatClampNeg + m.toNatClampNeg * n.toNatClampNeg) fun cs' => k (pc + 4) lv (.ref (M.1.length + 4) :: st) (ro_grid M m.toNatClampNeg n.toNatClampNeg) cs'
  | .invokevirtual _ => match b with
      | 7 => ro_pR st fun c st => ro_cat st ≤ 8 ∧ 4 ≤ c ∧ (ro_kd M c).1 = 16 ∧ ro_mk mx cs 1 (ro_kd M c).2 fun cs' => k (pc + 3) lv (.ref (M.1.length + 4) :: st) (ro_cpy M c) cs'
      | _ => (12 ≤ a ∧ a ≠ 193) ∧ ro_cv (some (ro_m a).2.2.2.2.1) cl mx a pc lv st M cs k
  | .invokespecial _ => match b with
      | 2 => ro_pR st fun _ r => ro_cat r ≤ 8 ∧ k (pc + 3) lv r M cs
      | _ => ro_cv none cl mx a pc lv st M cs k
  | .invokestatic _ => match b with
      | 0 => ro_csm cl mx a pc lv st M cs k
      | 3 => ro_math a pc lv st M cs k
      | 4 => ro_ac pc lv st M cs k
      | 5 => ro_pD st fun x st => ro_cat st ≤ 8 ∧ vf_n64 x ∧ k (pc + 3) lv (.double (ro_abs x) :: st) M cs
      | _ => False
  | _ => False
/-- a method's end: what it answers -/
def ro_end (mx cs : Nat × Nat) (ret : Option FieldType) (st : List Value) (M : ro_Mm) (post : ro_Po) (i : Instr) : Prop := cs.1 ≤ mx.1 ∧ cs.2 ≤ mx.2 ∧ match i, st with
  | .ireturn, [.int x] => (ret = some .int ∨ (ret = some .boolean ∧ (x = 0 ∨ x = 1))) ∧ post (some (.int x)) M
  | .lreturn, [.long x] => ret = some .long ∧ post (some (.long x)) M
  | .dreturn, [.double x] => ret = some .double ∧ post (some (.double x)) M
  | .areturn, [.ref x] => (ret = some (.object "RefusedOnce$Shelf") ∨ ret = some (.array .int)) ∧ post (some (.ref x)) M
  | .areturn, [.null] => ret = some (.object "RefusedOnce$Shelf") ∧ post (some .null) M
  | .return_, [] => ret = none ∧ post none M
  | _, _ => False
def ro_isR (i : Instr) : Bool := match i with
  | .ireturn => true
  | .lreturn => true
  | .dreturn => true
  | .areturn => true
  | .return_ => true
  | _ => false
def ro_ix (y pc : Nat) : Option ro_In := (ro_cod y).find? (fun e => e.1 == pc)
def ro_one (cl : Nat → List Value → ro_Mm → ro_Po → Prop) (X : ro_Sx) (y : Nat) (post : ro_Po) (k : ro_K) (pc : Nat) (lv : ro_Lv) (st : List Value) (M : ro_Mm) (cs : Nat × Nat) : Prop := match ro_ix y pc with
  | none => False
  | some e => (ro_isR e.2.1 = true → ro_end (ro_lim y) cs (ro_m y).2.2.2.1 st M post e.2.1) ∧ (ro_isR e.2.1 = false → ro_step cl X (ro_lim y) (ro_m y).2.2.2.2.1 (ro_m y).2.2.1 ((ro_m y).1.name == "<init>") pc lv st M cs k e.2.1 e.2.2.1 e.2.2.2)
/-- from here the method comes to its end, with post: the least such -/
def ro_wp (cl : Nat → List Value → ro_Mm → ro_Po → Prop) (X : ro_Sx) (y : Nat) (post : ro_Po) (pc : Nat) (lv : ro_Lv) (st : List Value) (M : ro_Mm) (cs : Nat × Nat) : Prop :=
  ∀ k : ro_K, (∀ pc lv st M cs, ro_one cl X y post k pc lv st M cs → k pc lv st M cs) → k pc lv st M cs
/-- a call of y, d calls deep at most -/
def ro_cwp (X : ro_Sx) : Nat → Nat → List Value → ro_Mm → ro_Po → Prop
  | 0, _, _, _, _ => False
  | d + 1, y, args, M, post => (lg_sl args).length ≤ (ro_m y).2.2.1 ∧ y < 206 ∧ ro_wp (ro_cwp X d) X y post 0 (lv_args 0 args) [] M (0, 0)
