/-! A small machine of our own: values are the model's own, a reference is the place of a cell in a list, the script's reference is '.retAddr 0' -/
/-- a cell: the place of its class in vwCl and its fields; or 100 (int[]), 101 (char[]), 102 (boolean[]), 103 (Streets[]) and its elements -/
abbrev mj_C : Type := Nat × List Value
abbrev mj_H : Type := List mj_C
abbrev mj_L : Type := List (Nat × Value)
abbrev mj_S : Type := mj_M × Nat × mj_L × List Value × mj_H
abbrev mj_O : Type := Option (Option Value × mj_H)
def mj_get (lv : mj_L) (i : Nat) : Option Value := (lv.find? (fun q => q.1 == i)).map (fun q => q.2)
def mj_put1 (lv : mj_L) (i : Nat) (v : Value) : mj_L := (i, v) :: lv.filter (fun q => !(q.1 == i) && !(q.1 + 1 == i && q.2.category == 2))
def mj_put2 (lv : mj_L) (i : Nat) (v : Value) : mj_L := (i, v) :: lv.filter (fun q => !(q.1 == i) && (!(q.1 == i + 1) && !(q.1 + 1 == i && q.2.category == 2)))
def mj_ii (st : List Value) (f : Int32 → Int32 → Option Int32) : Option (List Value) := match st with
  | .int y :: .int x :: r => match f x y with
    | some v => some (.int v :: r)
    | none => none
  | _ => none
def mj_ll (st : List Value) (f : Int64 → Int64 → Option Int64) : Option (List Value) := match st with
  | .long y :: .long x :: r => match f x y with
    | some v => some (.long v :: r)
    | none => none
  | _ => none
/-- what an instruction of one byte that looks at the stack alone makes of it -/
def mj_alu (ins : Instr) (st : List Value) : Option (List Value) := match ins with
  | .iconst n => some (.int (Int32.ofInt n) :: st)
  | .lconst n => some (.long (Int64.ofNat (n : Nat)) :: st)
  | .iadd => mj_ii st (fun x y => some (x + y))
  | .isub => mj_ii st (fun x y => some (x - y))
  | .imul => mj_ii st (fun x y => some (x * y))
  | .iand => mj_ii st (fun x y => some (x &&& y))
  | .ior => mj_ii st (fun x y => some (x ||| y))
  | .ixor => mj_ii st (fun x y => some (x ^^^ y))
  | .idiv => mj_ii st (fun x y => if y = 0 then none else some (x / y))
  | .irem => mj_ii st (fun x y => if y = 0 then none else some (x - (x / y) * y))
  | .ishl => mj_ii st (fun x y => some (x <<< (y &&& 31)))
  | .ishr => mj_ii st (fun x y => some (x >>> (y &&& 31)))
  | .iushr => mj_ii st (fun x y => some ((x.toUInt32 >>> (y.toUInt32 &&& Int32.toUInt32 31)).toInt32))
  | .ladd => mj_ll st (fun x y => some (x + y))
  | .lmul => mj_ll st (fun x y => some (x * y))
  | .ldiv => mj_ll st (fun x y => if y = 0 then none else some (x / y))
  | .lrem => mj_ll st (fun x y => if y = 0 then none else some (x - (x / y) * y))
  | .lcmp => match st with
    | .long y :: .long x :: r => some (.int (lg_cmp x y) :: r)
    | _ => none
  | .i2l => match st with
    | .int x :: r => some (.long x.toInt64 :: r)
    | _ => none
  | .l2i => match st with
    | .long x :: r => some (.int x.toInt32 :: r)
    | _ => none
  | .i2c => match st with
    | .int x :: r => some (.int ((x.toUInt32 % 65536).toInt32) :: r)
    | _ => none
  | .dup => match st with
    | v :: r => if v.category = 1 then some (v :: v :: r) else none
    | _ => none
  | .pop => match st with
    | v :: r => if v.category = 1 then some r else none
    | _ => none
  | .dup2 => match st with
    | v :: w :: r => if v.category = 1 ∧ w.category = 1 then some (v :: w :: v :: w :: r) else none
    | _ => none
  | _ => none
def mj_cmp (c : ClassFile.Cond) (x y : Int32) : Bool := match c with
  | .eq => decide (x = y)
  | .ne => decide (¬ x = y)
  | .lt => decide (x < y)
  | .ge => decide (y ≤ x)
  | .gt => decide (y < x)
  | .le => decide (x ≤ y)
def mj_to (pc : Nat) (off : Int) : Option Nat := if 0 ≤ (pc : Int) + off then some ((pc : Int) + off).toNat else none
/-- where a branch goes, and what it leaves on the stack -/
def mj_br (ins : Instr) (len pc : Nat) (st : List Value) : Option (Nat × List Value) := match ins with
  | .goto off => if len = 3 then (mj_to pc off).map (fun t => (t, st)) else none
  | .ifCond c off => match st with
    | .int x :: r => if len = 3 then (mj_to pc off).map (fun t => (if mj_cmp c x 0 = true then t else pc + 3, r)) else none
    | _ => none
  | .if_icmp c off => match st with
    | .int y :: .int x :: r => if len = 3 then (mj_to pc off).map (fun t => (if mj_cmp c x y = true then t else pc + 3, r)) else none
    | _ => none
  | .tableswitch d lo hi offs => match st with
    | .int x :: r => if x.toInt < lo ∨ hi < x.toInt then (mj_to pc d).map (fun t => (t, r)) else match offs[(x.toInt - lo).toNat]? with
      | some off => (mj_to pc off).map (fun t => (t, r))
      | none => none
    | _ => none
  | .lookupswitch d ps => match st with
    | .int x :: r => if (ps.toList.zip (ps.toList.drop 1)).all (fun (a, next) => a.1 < next.1) = true then (mj_to pc (Op.lookupswitch.offset ps.toList d x.toInt)).map (fun t => (t, r)) else none
    | _ => none
  | _ => none
/-- locals: the new ones, the new stack; n is how many there may be -/
def mj_lo1 (i n len want : Nat) (lv : mj_L) (st : List Value) (ok : Value → Bool) : Option (mj_L × List Value) :=
  if len = want then match mj_get lv i with
    | some v => if ok v then some (lv, v :: st) else none
    | none => none
  else none
def mj_st1 (i n len want : Nat) (lv : mj_L) (st : List Value) (ok : Value → Bool) : Option (mj_L × List Value) :=
  if len = want ∧ i < n then match st with
    | v :: r => if ok v then some (mj_put1 lv i v, r) else none
    | _ => none
  else none
def mj_isI (v : Value) : Bool := match v with
  | .int _ => true
  | _ => false
def mj_isL (v : Value) : Bool := match v with
  | .long _ => true
  | _ => false
def mj_isA (v : Value) : Bool := match v with
  | .ref _ => true
  | .retAddr _ => true
  | _ => false
def mj_isR (v : Value) : Bool := match v with
  | .ref _ => true
  | _ => false
def mj_loc (ins : Instr) (len n : Nat) (lv : mj_L) (st : List Value) : Option (mj_L × List Value) := match ins with
  | .iload_n k => mj_lo1 k n len 1 lv st mj_isI
  | .iload i => mj_lo1 i n len 2 lv st mj_isI
  | .lload_n k => mj_lo1 k n len 1 lv st mj_isL
  | .lload i => mj_lo1 i n len 2 lv st mj_isL
  | .aload_n k => mj_lo1 k n len 1 lv st mj_isA
  | .aload i => mj_lo1 i n len 2 lv st mj_isA
  | .istore_n k => mj_st1 k n len 1 lv st mj_isI
  | .istore i => mj_st1 i n len 2 lv st mj_isI
  | .astore_n k => mj_st1 k n len 1 lv st mj_isR
  | .astore i => mj_st1 i n len 2 lv st mj_isR
  | .lstore_n k => if len = 1 ∧ (k : Nat) + 1 < n then match st with
    | .long x :: r => some (mj_put2 lv k (.long x), r)
    | _ => none
    else none
  | .iinc i d => if len = 3 ∧ i < n then match mj_get lv i with
    | some (.int x) => some (mj_put1 lv i (.int (x + Int32.ofInt d)), st)
    | _ => none
    else none
  | _ => none
/-- how long an instruction of mj_loc is -/
def mj_tag (a : ArrayType) : Option Nat := match a with
  | .int => some 100
  | .char => some 101
  | .boolean => some 102
  | _ => none
def mj_elt (t : Nat) : FieldType := if t = 100 then .int else if t = 101 then .char else if t = 102 then .boolean else .object "SootMaps$Streets"
/-- an element of an array of kind t -/
def mj_ald (t : Nat) (sc : Option (List Int32)) (st : List Value) (h : mj_H) : Option (List Value) := match st with
  | .int j :: .ref a :: r => match h[a]? with
    | some (t', xs) => if t' = t ∧ ¬ j < 0 then match xs[j.toNatClampNeg]? with
      | some v => some (v :: r)
      | none => none
      else none
    | none => none
  | .int j :: .retAddr _ :: r => match sc with
    | some sc => if t = 100 ∧ ¬ j < 0 then match sc[j.toNatClampNeg]? with
      | some v => some (.int v :: r)
      | none => none
      else none
    | none => none
  | _ => none
/-- an int into an array of kind t -/
def mj_ast (t : Nat) (st : List Value) (h : mj_H) : Option (List Value × mj_H) := match st with
  | .int x :: .int j :: .ref a :: r => match h[a]? with
    | some (t', xs) => if t' = t ∧ ¬ j < 0 ∧ j.toNatClampNeg < xs.length then some (r, h.set a (t', xs.set j.toNatClampNeg (narrow (mj_elt t) (.int x)))) else none
    | none => none
  | _ => none
def mj_aast (st : List Value) (h : mj_H) : Option (List Value × mj_H) := match st with
  | .ref v :: .int j :: .ref a :: r => match h[a]?, h[v]? with
    | some (t, xs), some (7, _) => if t = 103 ∧ ¬ j < 0 ∧ j.toNatClampNeg < xs.length then some (r, h.set a (t, xs.set j.toNatClampNeg (.ref v))) else none
    | _, _ => none
  | _ => none
def mj_alen (sc : Option (List Int32)) (st : List Value) (h : mj_H) : Option (List Value) := match st with
  | .ref a :: r => match h[a]? with
    | some (t, xs) => if 100 ≤ t ∧ t < 104 then some (.int (Int32.ofNat xs.length) :: r) else none
    | none => none
  | .retAddr _ :: r => match sc with
    | some sc => some (.int (Int32.ofNat sc.length) :: r)
    | none => none
  | _ => none
def mj_ent (M : mj_M) (idx : Nat) : Option mj_E := match mj_pools[M.2.2.2.2.1]? with
  | some pool => pool.find? (fun e => e.1 == idx)
  | none => none
def mj_gf (M : mj_M) (idx : Nat) (st : List Value) (h : mj_H) : Option (List Value) := match mj_ent M idx with
  | some (_, kd, ci, k) => if kd ≤ 1 then match st with
    | .ref a :: r => match h[a]? with
      | some (t, xs) => if t = ci ∧ ci < 11 then match xs[k]? with
        | some v => some (v :: r)
        | none => none
        else none
      | none => none
    | _ => none
    else none
  | none => none
def mj_ty (ci k : Nat) : FieldType := match mj_tys[ci]? with
  | some f => f k
  | none => .int
def mj_fin (ci k : Nat) : Bool := match vwCl[ci]? with
  | some q => (q.2.1 k).2.2.2
  | none => true
def mj_pf (M : mj_M) (idx : Nat) (st : List Value) (h : mj_H) : Option (List Value × mj_H) := match mj_ent M idx with
  | some (_, kd, ci, k) => if kd ≤ 1 then match st with
    | v :: .ref a :: r => match h[a]? with
      | some (t, xs) => if t = ci ∧ ci < 11 ∧ k < xs.length ∧ narrow (mj_ty ci k) v = v ∧ fits (mj_ty ci k) v = true ∧ (mj_fin ci k = false ∨ (kd = 0 ∧ M.2.2.2.2.2.2.1 = 2 ∧ M.2.2.2.2.1 = ci ∧ mj_fin ci k = true)) then some (r, h.set a (t, xs.set k v)) else none
      | none => none
    | _ => none
    else none
  | none => none
def mj_nf (ci : Nat) : Nat := match vwCl[ci]? with
  | some q => q.2.2
  | none => 0
def mj_new (M : mj_M) (idx : Nat) (st : List Value) (h : mj_H) : Option (List Value × mj_H) := match mj_ent M idx with
  | some (_, kd, ci, _) => if kd = 4 ∧ ci < 11 then some (.ref h.length :: st, h ++ [(ci, (List.range (mj_nf ci)).map (fun k => defaultValue (mj_ty ci k)))]) else none
  | none => none
def mj_newa (a : ArrayType) (st : List Value) (h : mj_H) : Option (List Value × mj_H) := match mj_tag a, st with
  | some t, .int n :: r => if ¬ n < 0 ∧ n.toNatClampNeg ≤ 1000000 then some (.ref h.length :: r, h ++ [(t, List.replicate n.toNatClampNeg (.int 0))]) else none
  | _, _ => none
def mj_anew (M : mj_M) (idx : Nat) (st : List Value) (h : mj_H) : Option (List Value × mj_H) := match mj_ent M idx, st with
  | some (_, kd, ci, _), .int n :: r => if kd = 4 ∧ ci = 7 ∧ ¬ n < 0 ∧ n.toNatClampNeg ≤ 1000000 then some (.ref h.length :: r, h ++ [(103, List.replicate n.toNatClampNeg .null)]) else none
  | _, _ => none
def mj_ldc (M : mj_M) (idx : Nat) (st : List Value) : Option (List Value) := match mj_ent M idx with
  | some (_, kd, v, _) => if kd = 5 then some (.int (Int32.ofNat v) :: st) else none
  | none => none
def mj_ldc2 (M : mj_M) (idx : Nat) (st : List Value) : Option (List Value) := match mj_ent M idx with
  | some (_, kd, v, _) => if kd = 6 then some (.long (Int64.ofNat v) :: st) else none
  | none => none
def mj_cpy (xs ys : List Value) (sp dp n : Nat) : List Value := ys.take dp ++ (xs.drop sp).take n ++ ys.drop (dp + n)
def mj_acopy (M : mj_M) (st : List Value) (h : mj_H) : Option (List Value × mj_H) := match st with
  | .int n :: .int dp :: .ref d :: .int sp :: .ref a :: r => match h[a]?, h[d]? with
    | some (t, xs), some (t', ys) => if t = 100 ∧ t' = 100 ∧ ¬ sp < 0 ∧ ¬ dp < 0 ∧ ¬ n < 0 ∧ sp.toNatClampNeg + n.toNatClampNeg ≤ xs.length ∧ dp.toNatClampNeg + n.toNatClampNeg ≤ ys.length ∧ ((xs.drop sp.toNatClampNeg).take n.toNatClampNeg).all mj_isI = true ∧ 1 ≤ M.2.2.2.2.2.2.2.1 ∧ (r.map fun v => v.category).sum + 18 ≤ M.2.2.2.2.2.2.2.2 then
        some (r, h.set d (t', mj_cpy xs ys sp.toNatClampNeg dp.toNatClampNeg n.toNatClampNeg)) else none
    | _, _ => none
  | _ => none
/-- Math.max and Math.min -/
def mj_mm (M : mj_M) (kd : Nat) (st : List Value) : Option (List Value) := match st with
  | .int y :: .int x :: r => if 1 ≤ M.2.2.2.2.2.2.2.1 ∧ (r.map fun v => v.category).sum + 13 ≤ M.2.2.2.2.2.2.2.2 then (if kd = 9 then some (.int (if x < y then y else x) :: r) else some (.int (if y < x then y else x) :: r)) else none
  | _ => none
/-- a call: the arguments' count n, the method, the stack behind it; what is called runs by kc, what is behind it by k -/
def mj_call (kc k : mj_S → mj_O) (M : mj_M) (pc : Nat) (lv : mj_L) (st : List Value) (h : mj_H) (M' : mj_M) (n : Nat) : mj_O :=
  if n ≤ st.length ∧ ((st.drop n).map fun v => v.category).sum ≤ 8 ∧ M'.2.2.2.2.2.2.2.1 + 1 ≤ M.2.2.2.2.2.2.2.1 ∧ 8 + (M'.2.2.1 + 11) + M'.2.2.2.2.2.2.2.2 ≤ M.2.2.2.2.2.2.2.2 ∧ (lg_sl (st.take n).reverse).length ≤ M'.2.2.1 then
    match kc (M', 0, lv_args 0 (st.take n).reverse, [], h) with
    | some (r, h1) => k (M, pc + 3, lv, r.toList ++ st.drop n, h1)
    | none => none
  else none
def mj_step (sc : Option (List Int32)) (kc k : mj_S → mj_O) (S : mj_S) : mj_O := match S with
  | (M, pc, lv, st, h) => match decode M.2.1 pc with
    | .error _ => none
    | .ok (ins, len) => match ins with
      | .bipush n => if len = 2 then k (M, pc + 2, lv, .int (Int8.ofInt n).toInt32 :: st, h) else none
      | .sipush n => if len = 3 then k (M, pc + 3, lv, .int (Int16.ofInt n).toInt32 :: st, h) else none
      | .ldc idx => if len = 2 then match mj_ldc M idx st with
        | some st' => k (M, pc + 2, lv, st', h)
        | none => none
        else none
      | .ldc_w idx => if len = 3 then match mj_ldc M idx st with
        | some st' => k (M, pc + 3, lv, st', h)
        | none => none
        else none
      | .ldc2_w idx => if len = 3 then match mj_ldc2 M idx st with
        | some st' => k (M, pc + 3, lv, st', h)
        | none => none
        else none
      | .getfield idx => if len = 3 then match mj_gf M idx st h with
        | some st' => k (M, pc + 3, lv, st', h)
        | none => none
        else none
      | .putfield idx => if len = 3 then match mj_pf M idx st h with
        | some (st', h') => k (M, pc + 3, lv, st', h')
        | none => none
        else none
      | .new idx => if len = 3 then match mj_new M idx st h with
        | some (st', h') => k (M, pc + 3, lv, st', h')
        | none => none
        else none
      | .newarray a => if len = 2 then match mj_newa a st h with
        | some (st', h') => k (M, pc + 2, lv, st', h')
        | none => none
        else none
      | .anewarray idx => if len = 3 then match mj_anew M idx st h with
        | some (st', h') => k (M, pc + 3, lv, st', h')
        | none => none
        else none
      | .iaload => if len = 1 then match mj_ald 100 sc st h with
        | some st' => k (M, pc + 1, lv, st', h)
        | none => none
        else none
      | .caload => if len = 1 then match mj_ald 101 sc st h with
        | some st' => k (M, pc + 1, lv, st', h)
        | none => none
        else none
      | .baload => if len = 1 then match mj_ald 102 sc st h with
        | some st' => k (M, pc + 1, lv, st', h)
        | none => none
        else none
      | .aaload => if len = 1 then match mj_ald 103 sc st h with
        | some st' => k (M, pc + 1, lv, st', h)
        | none => none
        else none
      | .iastore => if len = 1 then match mj_ast 100 st h with
        | some (st', h') => k (M, pc + 1, lv, st', h')
        | none => none
        else none
      | .castore => if len = 1 then match mj_ast 101 st h with
        | some (st', h') => k (M, pc + 1, lv, st', h')
        | none => none
        else none
      | .bastore => if len = 1 then match mj_ast 102 st h with
        | some (st', h') => k (M, pc + 1, lv, st', h')
        | none => none
        else none
      | .aastore => if len = 1 then match mj_aast st h with
        | some (st', h') => k (M, pc + 1, lv, st', h')
        | none => none
        else none
      | .arraylength => if len = 1 then match mj_alen sc st h with
        | some st' => k (M, pc + 1, lv, st', h)
        | none => none
        else none
      | .ireturn => if len = 1 then match st, M.2.2.2.1 with
        | [.int v], some ty => if narrow ty (.int v) = .int v then some (some (.int v), h) else none
        | _, _ => none
        else none
      | .return_ => if len = 1 then match st, M.2.2.2.1 with
        | [], none => some (none, h)
        | _, _ => none
        else none
      | .invokestatic idx => if len = 3 then match mj_ent M idx with
        | some (_, kd, j, _) => if kd = 7 then match mj_acopy M st h with
            | some (st', h') => k (M, pc + 3, lv, st', h')
            | none => none
          else if kd = 9 ∨ kd = 10 then match mj_mm M kd st with
            | some st' => k (M, pc + 3, lv, st', h)
            | none => none
          else match mj_meths[j]? with
            | some M' => if kd = 2 ∧ M'.2.2.2.2.2.2.1 = 0 then mj_call kc k M pc lv st h M' M'.2.2.2.2.2.1 else none
            | none => none
        | none => none
        else none
      | .invokevirtual idx => if len = 3 then match mj_ent M idx with
        | some (_, kd, j, _) => match mj_meths[j]? with
            | some M' => match st[M'.2.2.2.2.2.1]? with
              | some (.ref a) => match h[a]? with
                | some (t, _) => if kd = 2 ∧ M'.2.2.2.2.2.2.1 = 1 ∧ t = M'.2.2.2.2.1 ∧ t < 11 then mj_call kc k M pc lv st h M' (M'.2.2.2.2.2.1 + 1) else none
                | none => none
              | _ => none
            | none => none
        | none => none
        else none
      | .invokespecial idx => if len = 3 then match mj_ent M idx with
        | some (_, kd, j, _) => if kd = 8 then match st with
            | .ref a :: r => if 1 ≤ M.2.2.2.2.2.2.2.1 ∧ (r.map fun v => v.category).sum + 12 ≤ M.2.2.2.2.2.2.2.2 then k (M, pc + 3, lv, r, h) else none
            | _ => none
          else match mj_meths[j]? with
            | some M' => match st[M'.2.2.2.2.2.1]? with
              | some (.ref a) => if (kd = 2 ∨ kd = 3) ∧ M'.2.2.2.2.2.2.1 = 2 then mj_call kc k M pc lv st h M' (M'.2.2.2.2.2.1 + 1) else none
              | _ => none
            | none => none
        | none => none
        else none
      | ins => match mj_br ins len pc st with
        | some (pc', st') => k (M, pc', lv, st', h)
        | none => match mj_loc ins len M.2.2.1 lv st with
          | some (lv', st') => k (M, pc + len, lv', st', h)
          | none => if len = 1 then match mj_alu ins st with
            | some st' => k (M, pc + 1, lv, st', h)
            | none => none
            else none
/-- the machine of all methods but the law, at most f steps deep: it sees no script -/
def mj_ex (f : Nat) : mj_S → mj_O := Nat.rec (fun _ => none) (fun _ k S => mj_step none k k S) f
theorem mj_ex_0 (S : mj_S) : mj_ex 0 S = none := rfl
theorem mj_ex_s (f : Nat) (S : mj_S) : mj_ex (f + 1) S = mj_step none (mj_ex f) (mj_ex f) S := rfl
/-- the law's own: its script, what runs its calls -/
def mj_exL (sc : List Int32) (kc : mj_S → mj_O) (f : Nat) : mj_S → mj_O := Nat.rec (fun _ => none) (fun _ k S => mj_step (some sc) kc k S) f
theorem mj_exL_0 (sc : List Int32) (kc : mj_S → mj_O) (S : mj_S) : mj_exL sc kc 0 S = none := rfl
theorem mj_exL_s (sc : List Int32) (kc : mj_S → mj_O) (f : Nat) (S : mj_S) : mj_exL sc kc (f + 1) S = mj_step (some sc) kc (mj_exL sc kc f) S := rfl
