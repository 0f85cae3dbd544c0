/-! ===== the abstract machine: a store of numbers over a fixed shape of cells; the methods' own instructions ===== -/
abbrev am_S : Type := Nat → Nat → Int32
/-- a cell: an object (its class's number; of each field: none an int, some r the cell r), an array of ints (0) or booleans (1) of a length, an array of cells -/
abbrev am_Sh : Type := (Nat × List (Option Nat)) ⊕ (Nat × Nat) ⊕ List Nat
abbrev am_X : Type := Nat → Option (Nat × (Nat → Int32))
/-- a method: name, bytes, locals, answer, parameters, class's number (none: static), instructions, field links (class, field; 0 an int, 1 a boolean, 2 never put), method links, constants, links of the static row (1), of arraycopy (2), Math.min (3), Math.abs (4) -/
abbrev am_M : Type := MethodName × ByteArray × Nat × Option FieldType × Nat × Option Nat × (Nat → Option (Instr × Nat)) × (Nat → Option (Nat × Nat × Nat)) × (Nat → Option Nat) × (Nat → Option Int32) × (Nat → Nat)
abbrev am_y (M : am_M) : MethodName := M.1
abbrev am_by (M : am_M) : ByteArray := M.2.1
abbrev am_ml (M : am_M) : Nat := M.2.2.1
abbrev am_rt (M : am_M) : Option FieldType := M.2.2.2.1
abbrev am_np (M : am_M) : Nat := M.2.2.2.2.1
abbrev am_ci (M : am_M) : Option Nat := M.2.2.2.2.2.1
abbrev am_co (M : am_M) : Nat → Option (Instr × Nat) := M.2.2.2.2.2.2.1
abbrev am_lf (M : am_M) : Nat → Option (Nat × Nat × Nat) := M.2.2.2.2.2.2.2.1
abbrev am_lm (M : am_M) : Nat → Option Nat := M.2.2.2.2.2.2.2.2.1
abbrev am_lc (M : am_M) : Nat → Option Int32 := M.2.2.2.2.2.2.2.2.2.1
abbrev am_lx (M : am_M) : Nat → Nat := M.2.2.2.2.2.2.2.2.2.2
abbrev am_R : Type := (Nat × List Value × List Value × am_S) ⊕ Option Value ⊕ (Nat × List Value × List Value)
def am_cb (c : ClassFile.Cond) (x y : Int32) : Bool := match c with
  | .eq => decide (x = y)
  | .ne => decide (¬ x = y)
  | .lt => decide (x < y)
  | .ge => decide (y ≤ x)
  | .gt => decide (y < x)
  | .le => decide (x ≤ y)
def am_in (i : Int32) (n : Nat) : Bool := decide (¬ i < 0) && decide (i.toNatClampNeg < n)
def am_bo (v : Int32) : Bool := decide (v = 0) || decide (v = 1)
def am_set (σ : am_S) (c : Nat) (f : Nat → Int32) : am_S := fun c' => if c' = c then f else σ c'
def am_up (σ : am_S) (c k : Nat) (v : Int32) : am_S := am_set σ c (upd (σ c) k v)
def am_tg (pc : Nat) (off : Int) : Nat := ((pc : Int) + off).toNat
def am_nx (pc : Nat) (L S : List Value) (σ : am_S) : Option am_R := some (.inl (pc, L, S, σ))
def am_len (sh : List am_Sh) (ex : am_X) (c : Nat) : Option Nat := match sh[c]? with
  | some (.inr (.inl q)) => if q.1 = 0 then some q.2 else none
  | some (.inr (.inr rs)) => some rs.length
  | some (.inl _) => none
  | none => match ex c with
    | some q => some q.1
    | none => none
def am_ild (sh : List am_Sh) (ex : am_X) (σ : am_S) (c : Nat) (i : Int32) : Option Int32 := match sh[c]? with
  | some (.inr (.inl q)) => if q.1 = 0 ∧ am_in i q.2 = true then some (σ c i.toNatClampNeg) else none
  | some (.inr (.inr _)) => none
  | some (.inl _) => none
  | none => match ex c with
    | some q => if am_in i q.1 = true then some (q.2 i.toNatClampNeg) else none
    | none => none
def am_bld (sh : List am_Sh) (σ : am_S) (c : Nat) (i : Int32) : Option Int32 := match sh[c]? with
  | some (.inr (.inl q)) => if q.1 = 1 ∧ am_in i q.2 = true then some (σ c i.toNatClampNeg) else none
  | _ => none
def am_ald (sh : List am_Sh) (c : Nat) (i : Int32) : Option Nat := match sh[c]? with
  | some (.inr (.inr rs)) => if am_in i rs.length = true then rs[i.toNatClampNeg]? else none
  | _ => none
def am_can (sh : List am_Sh) (ty c : Nat) (i : Int32) : Bool := match sh[c]? with
  | some (.inr (.inl q)) => decide (q.1 = ty) && am_in i q.2
  | _ => false
def am_gf (sh : List am_Sh) (σ : am_S) (c ci k : Nat) : Option Value := match sh[c]? with
  | some (.inl q) => if q.1 = ci then (match q.2[k]? with
    | some none => some (.int (σ c k))
    | some (some r) => some (.ref r)
    | none => none) else none
  | _ => none
def am_cpf (sh : List am_Sh) (c ci k : Nat) : Bool := match sh[c]? with
  | some (.inl q) => decide (q.1 = ci) && decide (q.2[k]? = some none)
  | _ => false
def am_cls (sh : List am_Sh) (c : Nat) : Option Nat := match sh[c]? with
  | some (.inl q) => some q.1
  | _ => none
def am_cpy (sh : List am_Sh) (c0 c1 : Nat) (sp dp n : Int32) : Bool := match sh[c0]?, sh[c1]? with
  | some (.inr (.inl q0)), some (.inr (.inl q1)) => decide (q0.1 = 0) && decide (q1.1 = 0) && decide (¬ sp < 0) && decide (¬ dp < 0) && decide (¬ n < 0) && decide (sp.toNatClampNeg + n.toNatClampNeg ≤ q0.2) && decide (dp.toNatClampNeg + n.toNatClampNeg ≤ q1.2)
  | _, _ => false
/-- what one instruction does -/
def am_ex (P : Nat → Option am_M) (sh : List am_Sh) (ex : am_X) (d : Nat) (M : am_M) (pc : Nat) (i : Instr) (L S : List Value) (σ : am_S) : Option am_R := match i with
  | .aload_n k => match L[k.val]? with
    | some (.ref a) => am_nx (pc + 1) L (.ref a :: S) σ
    | _ => none
  | .aload k => match L[k]? with
    | some (.ref a) => am_nx (pc + 2) L (.ref a :: S) σ
    | _ => none
  | .iload_n k => match L[k.val]? with
    | some (.int a) => am_nx (pc + 1) L (.int a :: S) σ
    | _ => none
  | .iload k => match L[k]? with
    | some (.int a) => am_nx (pc + 2) L (.int a :: S) σ
    | _ => none
  | .istore_n k => match S with
    | .int x :: S => if k.val < L.length then am_nx (pc + 1) (L.set k.val (.int x)) S σ else none
    | _ => none
  | .istore k => match S with
    | .int x :: S => if k < L.length then am_nx (pc + 2) (L.set k (.int x)) S σ else none
    | _ => none
  | .astore_n k => match S with
    | .ref x :: S => if k.val < L.length then am_nx (pc + 1) (L.set k.val (.ref x)) S σ else none
    | _ => none
  | .iinc k n => match L[k]? with
    | some (.int a) => am_nx (pc + 3) (L.set k (.int (a + Int32.ofInt n))) S σ
    | _ => none
  | .iconst n => am_nx (pc + 1) L (.int (Int32.ofInt n) :: S) σ
  | .bipush n => am_nx (pc + 2) L (.int (Int8.ofInt n).toInt32 :: S) σ
  | .sipush n => am_nx (pc + 3) L (.int (Int16.ofInt n).toInt32 :: S) σ
  | .ldc k => match am_lc M k with
    | some v => am_nx (pc + 2) L (.int v :: S) σ
    | none => none
  | .ldc_w k => match am_lc M k with
    | some v => am_nx (pc + 3) L (.int v :: S) σ
    | none => none
  | .getfield k => match S with
    | .ref c :: S => match am_lf M k with
      | some q => match am_gf sh σ c q.1 q.2.1 with
        | some v => am_nx (pc + 3) L (v :: S) σ
        | none => none
      | none => none
    | _ => none
  | .putfield k => match S with
    | .int v :: .ref c :: S => match am_lf M k with
      | some q => if am_cpf sh c q.1 q.2.1 = true ∧ q.2.2 ≤ 1 ∧ (q.2.2 = 1 → am_bo v = true) then am_nx (pc + 3) L S (am_up σ c q.2.1 v) else none
      | none => none
    | _ => none
  | .getstatic k => if am_lx M k = 1 then am_nx (pc + 3) L (.ref 1000 :: S) σ else none
  | .iaload => match S with
    | .int i :: .ref c :: S => match am_ild sh ex σ c i with
      | some v => am_nx (pc + 1) L (.int v :: S) σ
      | none => none
    | _ => none
  | .baload => match S with
    | .int i :: .ref c :: S => match am_bld sh σ c i with
      | some v => am_nx (pc + 1) L (.int v :: S) σ
      | none => none
    | _ => none
  | .aaload => match S with
    | .int i :: .ref c :: S => match am_ald sh c i with
      | some v => am_nx (pc + 1) L (.ref v :: S) σ
      | none => none
    | _ => none
  | .iastore => match S with
    | .int x :: .int i :: .ref c :: S => if am_can sh 0 c i = true then am_nx (pc + 1) L S (am_up σ c i.toNatClampNeg x) else none
    | _ => none
  | .bastore => match S with
    | .int x :: .int i :: .ref c :: S => if am_can sh 1 c i = true ∧ am_bo x = true then am_nx (pc + 1) L S (am_up σ c i.toNatClampNeg x) else none
    | _ => none
  | .arraylength => match S with
    | .ref c :: S => match am_len sh ex c with
      | some n => am_nx (pc + 1) L (.int (Int32.ofNat n) :: S) σ
      | none => none
    | _ => none
  | .iadd => match S with
    | .int y :: .int x :: S => am_nx (pc + 1) L (.int (x + y) :: S) σ
    | _ => none
  | .isub => match S with
    | .int y :: .int x :: S => am_nx (pc + 1) L (.int (x - y) :: S) σ
    | _ => none
  | .imul => match S with
    | .int y :: .int x :: S => am_nx (pc + 1) L (.int (x * y) :: S) σ
    | _ => none
  | .idiv => match S with
    | .int y :: .int x :: S => if y = 0 then none else am_nx (pc + 1) L (.int (x / y) :: S) σ
    | _ => none
  | .irem => match S with
    | .int y :: .int x :: S => if y = 0 then none else am_nx (pc + 1) L (.int (x - x / y * y) :: S) σ
    | _ => none
  | .ineg => match S with
    | .int x :: S => am_nx (pc + 1) L (.int (-x) :: S) σ
    | _ => none
  | .iand => match S with
    | .int y :: .int x :: S => am_nx (pc + 1) L (.int (x &&& y) :: S) σ
    | _ => none
  | .ior => match S with
    | .int y :: .int x :: S => am_nx (pc + 1) L (.int (x ||| y) :: S) σ
    | _ => none
  | .ixor => match S with
    | .int y :: .int x :: S => am_nx (pc + 1) L (.int (x ^^^ y) :: S) σ
    | _ => none
  | .ishl => match S with
    | .int y :: .int x :: S => am_nx (pc + 1) L (.int (x <<< (y &&& 31)) :: S) σ
    | _ => none
  | .ishr => match S with
    | .int y :: .int x :: S => am_nx (pc + 1) L (.int (x >>> (y &&& 31)) :: S) σ
    | _ => none
  | .iushr => match S with
    | .int y :: .int x :: S => am_nx (pc + 1) L (.int (x.toUInt32 >>> (y.toUInt32 &&& Int32.toUInt32 31)).toInt32 :: S) σ
    | _ => none
  | .dup => match S with
    | v :: S => am_nx (pc + 1) L (v :: v :: S) σ
    | _ => none
  | .dup2 => match S with
    | v :: w :: S => am_nx (pc + 1) L (v :: w :: v :: w :: S) σ
    | _ => none
  | .goto off => if 0 ≤ (pc : Int) + off then am_nx (am_tg pc off) L S σ else none
  | .ifCond cd off => match S with
    | .int x :: S => if 0 ≤ (pc : Int) + off then am_nx (if am_cb cd x 0 = true then am_tg pc off else pc + 3) L S σ else none
    | _ => none
  | .if_icmp cd off => match S with
    | .int y :: .int x :: S => if 0 ≤ (pc : Int) + off then am_nx (if am_cb cd x y = true then am_tg pc off else pc + 3) L S σ else none
    | _ => none
  | .tableswitch df lo hi os => match S with
    | .int x :: S => if x.toInt < lo ∨ hi < x.toInt then (if 0 ≤ (pc : Int) + df then am_nx (am_tg pc df) L S σ else none) else (match os[(x.toInt - lo).toNat]? with
      | some off => if 0 ≤ (pc : Int) + off then am_nx (am_tg pc off) L S σ else none
      | none => none)
    | _ => none
  | .lookupswitch df ps => match S with
    | .int x :: S => if (ps.toList.zip (ps.toList.drop 1)).all (fun (a, next) => a.1 < next.1) = true ∧ 0 ≤ (pc : Int) + Op.lookupswitch.offset ps.toList df x.toInt then am_nx (am_tg pc (Op.lookupswitch.offset ps.toList df x.toInt)) L S σ else none
    | _ => none
  | .ireturn => match S with
    | [.int x] => match am_rt M with
      | some .int => some (.inr (.inl (some (.int x))))
      | some .boolean => if am_bo x = true then some (.inr (.inl (some (.int x)))) else none
      | _ => none
    | _ => none
  | .areturn => match S with
    | [.ref x] => match am_rt M with
      | some (.object _) => some (.inr (.inl (some (.ref x))))
      | _ => none
    | _ => none
  | .return_ => match S with
    | [] => match am_rt M with
      | none => some (.inr (.inl none))
      | _ => none
    | _ => none
  | .invokevirtual k => match am_lm M k with
    | some mi => match P mi with
      | some M' => match am_ci M' with
        | some ci => match S.drop (am_np M') with
          | .ref c :: rest => if (S.take (am_np M')).length = am_np M' ∧ am_cls sh c = some ci ∧ rest.length ≤ 8 then some (.inr (.inr (mi, .ref c :: (S.take (am_np M')).reverse, rest))) else none
          | _ => none
        | none => none
      | none => none
    | none => none
  | .invokestatic k => if am_lx M k = 2 then (match S with
      | .int n :: .int dp :: .ref c1 :: .int sp :: .ref c0 :: S => if am_cpy sh c0 c1 sp dp n = true ∧ S.length ≤ 8 ∧ 1 ≤ d then am_nx (pc + 3) L S (am_set σ c1 (va_cpy (σ c0) (σ c1) sp.toNatClampNeg dp.toNatClampNeg n.toNatClampNeg)) else none
      | _ => none)
    else if am_lx M k = 3 then (match S with
      | .int y :: .int x :: S => if S.length ≤ 8 ∧ 1 ≤ d then am_nx (pc + 3) L (.int (if y < x then y else x) :: S) σ else none
      | _ => none)
    else if am_lx M k = 4 then (match S with
      | .int x :: S => if S.length ≤ 8 ∧ 1 ≤ d then am_nx (pc + 3) L (.int (if 0 ≤ x then x else 0 - x) :: S) σ else none
      | _ => none)
    else match am_lm M k with
    | some mi => match P mi with
      | some M' => match am_ci M' with
        | none => if (S.take (am_np M')).length = am_np M' ∧ (S.drop (am_np M')).length ≤ 8 then some (.inr (.inr (mi, (S.take (am_np M')).reverse, S.drop (am_np M')))) else none
        | some _ => none
      | none => none
    | none => none
  | _ => none
def am_step (P : Nat → Option am_M) (sh : List am_Sh) (ex : am_X) (d : Nat) (M : am_M) (pc : Nat) (L S : List Value) (σ : am_S) : Option am_R := match am_co M pc with
  | some q => am_ex P sh ex d M pc q.1 L S σ
  | none => none
def am_pad (n : Nat) (args : List Value) : List Value := args ++ List.replicate (n - args.length) .null
def am_run (P : Nat → Option am_M) (sh : List am_Sh) (ex : am_X) : Nat → Nat → am_M → Nat → List Value → List Value → am_S → Option (Option Value × am_S)
  | 0, _, _, _, _, _, _ => none
  | n + 1, d, M, pc, L, S, σ => match am_step P sh ex d M pc L S σ with
    | some (.inl (pc', L', S', σ')) => am_run P sh ex n d M pc' L' S' σ'
    | some (.inr (.inl v)) => some (v, σ)
    | some (.inr (.inr (mi, args, rest))) => match d with
      | 0 => none
      | d' + 1 => match P mi with
        | none => none
        | some M' => if args.length ≤ am_ml M' then (match am_run P sh ex n d' M' 0 (am_pad (am_ml M') args) [] σ with
          | some (v, σ') => am_run P sh ex n d M (pc + 3) L (v.toList ++ rest) σ'
          | none => none) else none
    | none => none
