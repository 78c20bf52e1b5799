/-! A small machine of its own over the decoded bytecode: memory by addresses, one step an instruction, a run by fuel and depth. What it does, the real machine does (part 05). -/
/-- what a cell holds: ints, longs, references, an object (number of its class, fields), the law's script (only read) -/
abbrev od_E : Type := (Nat × (Nat → Int32)) ⊕ (Nat × (Nat → Int64)) ⊕ (Nat × (Nat → Option Nat)) ⊕ (Nat × List Value) ⊕ (Nat × (Nat → Int32))
abbrev od_ia (n : Nat) (f : Nat → Int32) : od_E := .inl (n, f)
abbrev od_la (n : Nat) (f : Nat → Int64) : od_E := .inr (.inl (n, f))
abbrev od_ra (n : Nat) (f : Nat → Option Nat) : od_E := .inr (.inr (.inl (n, f)))
abbrev od_ob (c : Nat) (fs : List Value) : od_E := .inr (.inr (.inr (.inl (c, fs))))
abbrev od_sc (n : Nat) (f : Nat → Int32) : od_E := .inr (.inr (.inr (.inr (n, f))))
/-- a memory: the next address, the slots that were made, the cells -/
abbrev od_M : Type := Nat × Nat × (Nat → Option od_E)
def od_set (M : od_M) (a : Nat) (e : od_E) : od_M := (M.1, M.2.1, va_up M.2.2 a (some e))
def od_add (M : od_M) (n : Nat) (e : od_E) : od_M := (M.1 + 1, M.2.1 + n, va_up M.2.2 M.1 (some e))
/-- an end: a value or none is given back; or an exception of a kind (0 index, 1 argument, 2 state) at an address -/
abbrev od_O : Type := Option Value ⊕ (Nat × Nat)
abbrev od_L : Type := List (Option Value)
/-- what a step leads to: on in the method; a call (callee, arguments, the rest of the stack); the method's end -/
abbrev od_R : Type := Option ((Nat × od_L × List Value × od_M) ⊕ (Nat × List Value × List Value) ⊕ (od_O × od_M))
def od_go (pc : Nat) (ls : od_L) (st : List Value) (M : od_M) : od_R := some (.inl (pc, ls, st, M))
def od_fin (o : od_O) (M : od_M) : od_R := some (.inr (.inr (o, M)))
def od_br (pc : Nat) (off : Int) (ls : od_L) (st : List Value) (M : od_M) : od_R := if 0 ≤ (pc : Int) + off then od_go ((pc : Int) + off).toNat ls st M else none
/-- a local by its place -/
def od_lo (ls : od_L) (j : Nat) : Option Value := (ls[j]?).getD none
/-- a store at i spoils a long that begins one below -/
def od_c2 (ls : od_L) (i : Nat) : od_L := match i with
  | 0 => ls
  | j + 1 => match od_lo ls j with
    | some v => if v.category = 2 then ls.set j none else ls
    | none => ls
def od_s1 (ls : od_L) (i : Nat) (v : Value) : od_L := (od_c2 ls i).set i (some v)
def od_s2 (ls : od_L) (i : Nat) (v : Value) : od_L := ((od_c2 ls i).set (i + 1) none).set i (some v)
def od_ild (pc n : Nat) (j : Nat) (ls : od_L) (st : List Value) (M : od_M) : od_R := match od_lo ls j with
  | some (.int x) => od_go (pc + n) ls (.int x :: st) M
  | _ => none
def od_lld (pc n : Nat) (j : Nat) (ls : od_L) (st : List Value) (M : od_M) : od_R := match od_lo ls j with
  | some (.long x) => od_go (pc + n) ls (.long x :: st) M
  | _ => none
def od_ald (pc n : Nat) (j : Nat) (ls : od_L) (st : List Value) (M : od_M) : od_R := match od_lo ls j with
  | some (.ref x) => od_go (pc + n) ls (.ref x :: st) M
  | _ => none
def od_ist (pc n : Nat) (j : Nat) (ls : od_L) (st : List Value) (M : od_M) : od_R := match st with
  | .int x :: r => if j < ls.length then od_go (pc + n) (od_s1 ls j (.int x)) r M else none
  | _ => none
def od_lst (pc n : Nat) (j : Nat) (ls : od_L) (st : List Value) (M : od_M) : od_R := match st with
  | .long x :: r => if j + 1 < ls.length then od_go (pc + n) (od_s2 ls j (.long x)) r M else none
  | _ => none
def od_ast (pc n : Nat) (j : Nat) (ls : od_L) (st : List Value) (M : od_M) : od_R := match st with
  | .ref x :: r => if j < ls.length then od_go (pc + n) (od_s1 ls j (.ref x)) r M else none
  | _ => none
def od_iinc (pc : Nat) (j : Nat) (d : Int) (ls : od_L) (st : List Value) (M : od_M) : od_R := match od_lo ls j with
  | some (.int x) => if j < ls.length then od_go (pc + 3) (od_s1 ls j (.int (x + Int32.ofInt d))) st M else none
  | _ => none
def od_i2 (pc : Nat) (f : Int32 → Int32 → Option Int32) (ls : od_L) (st : List Value) (M : od_M) : od_R := match st with
  | .int y :: .int x :: r => match f x y with
    | some z => od_go (pc + 1) ls (.int z :: r) M
    | none => none
  | _ => none
def od_l2 (pc : Nat) (f : Int64 → Int64 → Option Int64) (ls : od_L) (st : List Value) (M : od_M) : od_R := match st with
  | .long y :: .long x :: r => match f x y with
    | some z => od_go (pc + 1) ls (.long z :: r) M
    | none => none
  | _ => none
def od_cond (c : ClassFile.Cond) (x y : Int32) : Bool := match c with
  | .eq => decide (x = y)
  | .ne => !decide (x = y)
  | .lt => decide (x < y)
  | .ge => decide (y ≤ x)
  | .gt => decide (y < x)
  | .le => decide (x ≤ y)
def od_if1 (pc : Nat) (c : ClassFile.Cond) (off : Int) (ls : od_L) (st : List Value) (M : od_M) : od_R := match st with
  | .int x :: r => if 0 ≤ (pc : Int) + off then (if od_cond c x 0 = true then od_go ((pc : Int) + off).toNat ls r M else od_go (pc + 3) ls r M) else none
  | _ => none
def od_if2 (pc : Nat) (c : ClassFile.Cond) (off : Int) (ls : od_L) (st : List Value) (M : od_M) : od_R := match st with
  | .int y :: .int x :: r => if 0 ≤ (pc : Int) + off then (if od_cond c x y = true then od_go ((pc : Int) + off).toNat ls r M else od_go (pc + 3) ls r M) else none
  | _ => none
def od_sw (pc : Nat) (dflt lo hi : Int) (offs : Array Int) (ls : od_L) (st : List Value) (M : od_M) : od_R := match st with
  | .int x :: r => if x.toInt < lo ∨ hi < x.toInt then od_br pc dflt ls r M else match offs[(x.toInt - lo).toNat]? with
    | some off => od_br pc off ls r M
    | none => none
  | _ => none
def od_dup (pc : Nat) (ls : od_L) (st : List Value) (M : od_M) : od_R := match st with
  | v :: r => if v.category = 1 then od_go (pc + 1) ls (v :: v :: r) M else none
  | _ => none
def od_dup2 (pc : Nat) (ls : od_L) (st : List Value) (M : od_M) : od_R := match st with
  | v :: w :: r => if v.category = 1 ∧ w.category = 1 then od_go (pc + 1) ls (v :: w :: v :: w :: r) M else none
  | _ => none
def od_pop (pc : Nat) (ls : od_L) (st : List Value) (M : od_M) : od_R := match st with
  | v :: r => if v.category = 1 then od_go (pc + 1) ls r M else none
  | _ => none
def od_i2l (pc : Nat) (ls : od_L) (st : List Value) (M : od_M) : od_R := match st with
  | .int x :: r => od_go (pc + 1) ls (.long x.toInt64 :: r) M
  | _ => none
def od_l2i (pc : Nat) (ls : od_L) (st : List Value) (M : od_M) : od_R := match st with
  | .long x :: r => od_go (pc + 1) ls (.int x.toInt32 :: r) M
  | _ => none
def od_lcmp (pc : Nat) (ls : od_L) (st : List Value) (M : od_M) : od_R := match st with
  | .long y :: .long x :: r => od_go (pc + 1) ls (.int (lg_cmp x y) :: r) M
  | _ => none
/-- the place i of an array of n -/
def od_ix (i : Int32) (n : Nat) : Bool := decide (0 ≤ i) && decide (i.toNatClampNeg < n)
def od_iald (pc : Nat) (ls : od_L) (st : List Value) (M : od_M) : od_R := match st with
  | .int i :: .ref a :: r => match M.2.2 a with
    | some (.inl (n, f)) => if od_ix i n = true then od_go (pc + 1) ls (.int (f i.toNatClampNeg) :: r) M else none
    | some (.inr (.inr (.inr (.inr (n, f))))) => if od_ix i n = true then od_go (pc + 1) ls (.int (f i.toNatClampNeg) :: r) M else none
    | _ => none
  | _ => none
def od_lald (pc : Nat) (ls : od_L) (st : List Value) (M : od_M) : od_R := match st with
  | .int i :: .ref a :: r => match M.2.2 a with
    | some (.inr (.inl (n, f))) => if od_ix i n = true then od_go (pc + 1) ls (.long (f i.toNatClampNeg) :: r) M else none
    | _ => none
  | _ => none
def od_aald (pc : Nat) (ls : od_L) (st : List Value) (M : od_M) : od_R := match st with
  | .int i :: .ref a :: r => match M.2.2 a with
    | some (.inr (.inr (.inl (n, f)))) => if od_ix i n = true then od_go (pc + 1) ls (va_rf (f i.toNatClampNeg) :: r) M else none
    | _ => none
  | _ => none
def od_alen (pc : Nat) (ls : od_L) (st : List Value) (M : od_M) : od_R := match st with
  | .ref a :: r => match M.2.2 a with
    | some (.inl (n, _)) => od_go (pc + 1) ls (.int (Int32.ofNat n) :: r) M
    | some (.inr (.inr (.inr (.inr (n, _))))) => od_go (pc + 1) ls (.int (Int32.ofNat n) :: r) M
    | _ => none
  | _ => none
def od_iast (pc : Nat) (ls : od_L) (st : List Value) (M : od_M) : od_R := match st with
  | .int x :: .int i :: .ref a :: r => match M.2.2 a with
    | some (.inl (n, f)) => if od_ix i n = true then od_go (pc + 1) ls r (od_set M a (od_ia n (upd f i.toNatClampNeg x))) else none
    | _ => none
  | _ => none
def od_last (pc : Nat) (ls : od_L) (st : List Value) (M : od_M) : od_R := match st with
  | .long x :: .int i :: .ref a :: r => match M.2.2 a with
    | some (.inr (.inl (n, f))) => if od_ix i n = true then od_go (pc + 1) ls r (od_set M a (od_la n (vp_updL f i.toNatClampNeg x))) else none
    | _ => none
  | _ => none
/-- a Row (class 0 of the worlds' classes) into an array of Rows -/
def od_aast (pc : Nat) (ls : od_L) (st : List Value) (M : od_M) : od_R := match st with
  | .ref v :: .int i :: .ref a :: r => match M.2.2 a, M.2.2 v with
    | some (.inr (.inr (.inl (n, f)))), some (.inr (.inr (.inr (.inl (c, _))))) => if od_ix i n = true ∧ c = od_row then od_go (pc + 1) ls r (od_set M a (od_ra n (va_up f i.toNatClampNeg (some v)))) else none
    | _, _ => none
  | _ => none
def od_get (own pc ix : Nat) (ls : od_L) (st : List Value) (M : od_M) : od_R := match st with
  | .ref a :: r => match M.2.2 a, od_fd own ix with
    | some (.inr (.inr (.inr (.inl (c, fs))))), some (c', k, _) => if c = c' then match fs[k]? with
        | some v => od_go (pc + 3) ls (v :: r) M
        | none => none
      else none
    | _, _ => none
  | _ => none
/-- a value that a field of this type code takes: 0 int, 1 boolean, 2 a reference, 3 a final reference, 4 a final int -/
def od_tk (t : Nat) (v : Value) : Bool := match v with
  | .int x => t == 0 || (t == 1 && (x == 0 || x == 1))
  | .ref _ => t == 2 || t == 3
  | _ => false
def od_put (own pc ix : Nat) (ini : Bool) (ls : od_L) (st : List Value) (M : od_M) : od_R := match st with
  | v :: .ref a :: r => match M.2.2 a, od_fd own ix with
    | some (.inr (.inr (.inr (.inl (c, fs))))), some (c', k, t) => if c = c' ∧ k < fs.length ∧ od_tk t v = true ∧ (t = 3 → ini = true) then od_go (pc + 3) ls r (od_set M a (od_ob c (fs.set k v))) else none
    | _, _ => none
  | _ => none
def od_new (k own pc ix : Nat) (ls : od_L) (st : List Value) (M : od_M) : od_R := match od_nw own ix with
  | some (c, fs) => od_go (pc + 3) ls (.ref M.1 :: st) (od_add M fs.length (od_ob c fs))
  | none => match od_xn k pc with
    | some x => match st with
      | [] => od_fin (.inr (x, M.1)) (od_add M 6 (od_ob (od_xc x) []))
      | _ :: _ => none
    | none => none
def od_newa (pc : Nat) (t : ClassFile.ArrayType) (ls : od_L) (st : List Value) (M : od_M) : od_R := match st with
  | .int n :: r => if 0 ≤ n ∧ n.toNatClampNeg ≤ 100000 then match t with
      | .int => od_go (pc + 2) ls (.ref M.1 :: r) (od_add M n.toNatClampNeg (od_ia n.toNatClampNeg (fun _ => 0)))
      | .long => od_go (pc + 2) ls (.ref M.1 :: r) (od_add M n.toNatClampNeg (od_la n.toNatClampNeg (fun _ => 0)))
      | _ => none
    else none
  | _ => none
def od_anew (own pc ix : Nat) (ls : od_L) (st : List Value) (M : od_M) : od_R := match st with
  | .int n :: r => if 0 ≤ n ∧ n.toNatClampNeg ≤ 100000 ∧ od_an own ix = true then od_go (pc + 3) ls (.ref M.1 :: r) (od_add M n.toNatClampNeg (od_ra n.toNatClampNeg (fun _ => none))) else none
  | _ => none
/-- System.arraycopy between two arrays of ints -/
def od_cpy (pc : Nat) (ls : od_L) (st : List Value) (M : od_M) : od_R := match st with
  | .int n :: .int dp :: .ref a :: .int sp :: .ref b :: r => match M.2.2 b, M.2.2 a with
    | some (.inl (nb, f)), some (.inl (na, g)) => if 0 ≤ n ∧ 0 ≤ dp ∧ 0 ≤ sp ∧ sp.toNatClampNeg + n.toNatClampNeg ≤ nb ∧ dp.toNatClampNeg + n.toNatClampNeg ≤ na ∧ (r.map fun v => v.category).sum ≤ 30 then
        od_go (pc + 3) ls r (od_set M a (od_ia na (va_cpy f g sp.toNatClampNeg dp.toNatClampNeg n.toNatClampNeg)))
      else none
    | _, _ => none
  | _ => none
/-- arguments as locals -/
def od_fl : List Value → od_L
  | [] => []
  | v :: r => if v.category = 2 then some v :: none :: od_fl r else some v :: od_fl r
/-- the receiver: an object of the callee's class (virtual), or an object (a constructor) -/
def od_rcv (kd j : Nat) (as : List Value) (M : od_M) : Bool := match as with
  | .ref b :: _ => match M.2.2 b with
    | some (.inr (.inr (.inr (.inl (c, _))))) => decide (kd = 2) || decide (c = od_oc j)
    | _ => false
  | _ => false
/-- an invoke: kind kd (0 virtual, 1 static, 2 special) as the table has it; 7: arraycopy; 8: Object's constructor -/
def od_inv (own kd pc ix : Nat) (ls : od_L) (st : List Value) (M : od_M) : od_R := match od_md own ix with
  | some (j, kd', n) => if kd' = 7 then (if kd = 1 then od_cpy pc ls st M else none)
      else if kd' = 8 then (if kd = 2 then match st with
        | .ref _ :: r => if (r.map fun v => v.category).sum ≤ 30 then od_go (pc + 3) ls r M else none
        | _ => none else none)
      else if kd = kd' ∧ n ≤ st.length ∧ ((st.drop n).map fun v => v.category).sum ≤ 30 ∧ (kd = 1 ∨ od_rcv kd j ((st.take n).reverse) M = true) ∧ (od_fl ((st.take n).reverse)).length ≤ od_nl j then some (.inr (.inl (j, (st.take n).reverse, st.drop n))) else none
  | none => none
def od_rv (k : Nat) (st : List Value) (M : od_M) : od_R := match st, od_rf k with
  | [], none => od_fin (.inl none) M
  | _, _ => none
def od_ri (k : Nat) (st : List Value) (M : od_M) : od_R := match st, od_rf k with
  | [.int x], some .int => od_fin (.inl (some (.int x))) M
  | [.int x], some .boolean => if x = 0 ∨ x = 1 then od_fin (.inl (some (.int x))) M else none
  | _, _ => none
def od_rl (k : Nat) (st : List Value) (M : od_M) : od_R := match st, od_rf k with
  | [.long x], some .long => od_fin (.inl (some (.long x))) M
  | _, _ => none
def od_rr (k : Nat) (st : List Value) (M : od_M) : od_R := match st, od_rf k with
  | [.ref x], some (.object _) => od_fin (.inl (some (.ref x))) M
  | _, _ => none
def od_ins (k pc n : Nat) (i : ClassFile.Instr) (ls : od_L) (st : List Value) (M : od_M) : od_R := match i with
  | .iconst v => if n = 1 then od_go (pc + 1) ls (.int (Int32.ofInt v) :: st) M else none
  | .bipush v => if n = 2 then od_go (pc + 2) ls (.int (Int8.ofInt v).toInt32 :: st) M else none
  | .sipush v => if n = 3 then od_go (pc + 3) ls (.int (Int16.ofInt v).toInt32 :: st) M else none
  | .lconst v => if n = 1 then od_go (pc + 1) ls (.long (Int64.ofNat v) :: st) M else none
  | .ldc ix => if n = 2 then match od_ki (od_ow k) ix with
      | some v => od_go (pc + 2) ls (.int v :: st) M
      | none => none
    else none
  | .ldc2_w ix => if n = 3 then match od_kl (od_ow k) ix with
      | some v => od_go (pc + 3) ls (.long v :: st) M
      | none => none
    else none
  | .iload j => if n = 2 then od_ild pc n j ls st M else none
  | .iload_n j => if n = 1 then od_ild pc n j ls st M else none
  | .lload j => if n = 2 then od_lld pc n j ls st M else none
  | .lload_n j => if n = 1 then od_lld pc n j ls st M else none
  | .aload j => if n = 2 then od_ald pc n j ls st M else none
  | .aload_n j => if n = 1 then od_ald pc n j ls st M else none
  | .istore j => if n = 2 then od_ist pc n j ls st M else none
  | .istore_n j => if n = 1 then od_ist pc n j ls st M else none
  | .lstore j => if n = 2 then od_lst pc n j ls st M else none
  | .lstore_n j => if n = 1 then od_lst pc n j ls st M else none
  | .astore j => if n = 2 then od_ast pc n j ls st M else none
  | .astore_n j => if n = 1 then od_ast pc n j ls st M else none
  | .iinc j d => if n = 3 then od_iinc pc j d ls st M else none
  | .iadd => if n = 1 then od_i2 pc (fun x y => some (x + y)) ls st M else none
  | .isub => if n = 1 then od_i2 pc (fun x y => some (x - y)) ls st M else none
  | .imul => if n = 1 then od_i2 pc (fun x y => some (x * y)) ls st M else none
  | .iand => if n = 1 then od_i2 pc (fun x y => some (x &&& y)) ls st M else none
  | .idiv => if n = 1 then od_i2 pc (fun x y => if y = 0 then none else some (x / y)) ls st M else none
  | .irem => if n = 1 then od_i2 pc (fun x y => if y = 0 then none else some (x - x / y * y)) ls st M else none
  | .ladd => if n = 1 then od_l2 pc (fun x y => some (x + y)) ls st M else none
  | .lsub => if n = 1 then od_l2 pc (fun x y => some (x - y)) ls st M else none
  | .lmul => if n = 1 then od_l2 pc (fun x y => some (x * y)) ls st M else none
  | .ldiv => if n = 1 then od_l2 pc (fun x y => if y = 0 then none else some (x / y)) ls st M else none
  | .lrem => if n = 1 then od_l2 pc (fun x y => if y = 0 then none else some (x - x / y * y)) ls st M else none
  | .lcmp => if n = 1 then od_lcmp pc ls st M else none
  | .i2l => if n = 1 then od_i2l pc ls st M else none
  | .l2i => if n = 1 then od_l2i pc ls st M else none
  | .dup => if n = 1 then od_dup pc ls st M else none
  | .dup2 => if n = 1 then od_dup2 pc ls st M else none
  | .pop => if n = 1 then od_pop pc ls st M else none
  | .ifCond c off => if n = 3 then od_if1 pc c off ls st M else none
  | .if_icmp c off => if n = 3 then od_if2 pc c off ls st M else none
  | .goto off => if n = 3 then od_br pc off ls st M else none
  | .tableswitch dflt lo hi offs => od_sw pc dflt lo hi offs ls st M
  | .iaload => if n = 1 then od_iald pc ls st M else none
  | .laload => if n = 1 then od_lald pc ls st M else none
  | .aaload => if n = 1 then od_aald pc ls st M else none
  | .iastore => if n = 1 then od_iast pc ls st M else none
  | .lastore => if n = 1 then od_last pc ls st M else none
  | .aastore => if n = 1 then od_aast pc ls st M else none
  | .arraylength => if n = 1 then od_alen pc ls st M else none
  | .getfield ix => if n = 3 then od_get (od_ow k) pc ix ls st M else none
  | .putfield ix => if n = 3 then od_put (od_ow k) pc ix (od_in k) ls st M else none
  | .new ix => if n = 3 then od_new k (od_ow k) pc ix ls st M else none
  | .newarray t => if n = 2 then od_newa pc t ls st M else none
  | .anewarray ix => if n = 3 then od_anew (od_ow k) pc ix ls st M else none
  | .invokevirtual ix => if n = 3 then od_inv (od_ow k) 0 pc ix ls st M else none
  | .invokestatic ix => if n = 3 then od_inv (od_ow k) 1 pc ix ls st M else none
  | .invokespecial ix => if n = 3 then od_inv (od_ow k) 2 pc ix ls st M else none
  | .return_ => if n = 1 then od_rv k st M else none
  | .ireturn => if n = 1 then od_ri k st M else none
  | .lreturn => if n = 1 then od_rl k st M else none
  | .areturn => if n = 1 then od_rr k st M else none
  | _ => none
def od_step (k pc : Nat) (ls : od_L) (st : List Value) (M : od_M) : od_R := match od_cd k pc with
  | some (i, n) => od_ins k pc n i ls st M
  | none => none
/-- the locals at a method's entry -/
def od_ent (k : Nat) (as : List Value) : od_L := od_fl as ++ List.replicate (od_nl k - (od_fl as).length) none
/-- a method's handlers: from, to, handler, kind of exception -/
def od_hd (k : Nat) : List (Nat × Nat × Nat × Nat) := (od_ht k).map fun h => (h.1, h.2.1, h.2.2.1, od_hx (od_ow k) h.2.2.2)
/-- the handler of the call at pc for an exception of the kind x -/
def od_hn (k pc x : Nat) : Option (Option Nat) := if (od_hd k).all (fun h => !(decide (h.1 ≤ pc) && decide (pc < h.2.1))) = true then some none else
  match (od_hd k).find? (fun h => decide (h.1 ≤ pc) && decide (pc < h.2.1) && decide (h.2.2.2 = x)) with
  | some h => some (some h.2.2.1)
  | none => none
/-- a run: fuel, depth left for calls, method, place, locals, stack, memory -/
def od_ev : Nat → Nat → Nat → Nat → od_L → List Value → od_M → Option (od_O × od_M)
  | 0, _, _, _, _, _, _ => none
  | n + 1, d, k, pc, ls, st, M => match od_step k pc ls st M with
    | none => none
    | some (.inl q) => od_ev n d k q.1 q.2.1 q.2.2.1 q.2.2.2
    | some (.inr (.inr q)) => some q
    | some (.inr (.inl q)) => match d with
      | 0 => none
      | d' + 1 => match od_ev n d' q.1 0 (od_ent q.1 q.2.1) [] M with
        | none => none
        | some (.inl r, M1) => od_ev n (d' + 1) k (pc + 3) ls (r.toList ++ q.2.2) M1
        | some (.inr xa, M1) => match od_hn k pc xa.1 with
          | some (some h) => od_ev n (d' + 1) k h ls [.ref xa.2] M1
          | some none => some (.inr xa, M1)
          | none => none
theorem od_hn_out {k pc x : Nat} (h : od_hn k pc x = some none) : ∀ q ∈ od_ht k, (decide (q.1 ≤ pc) && decide (pc < q.2.1)) = false := by
  unfold od_hn at h
  split at h
  · rename_i ha
    intro q hq
    rw [List.all_eq_true] at ha
    have h2 := ha _ (List.mem_map.mpr ⟨q, hq, rfl⟩)
    dsimp only at h2
    cases h3 : (decide (q.1 ≤ pc) && decide (pc < q.2.1)) with
    | false => rfl
    | true => rw [h3] at h2; cases h2
  · split at h <;> cases h
