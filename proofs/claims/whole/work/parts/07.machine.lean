-- ===== the reflected machine: an interpreter of the bytecode over a store, whose runs are the machine's (part 03) =====
/-- a store: ints (fields, elements; booleans too) and longs, by cell and place -/
abbrev ra_S : Type := (Nat → Nat → Int32) × (Nat → Nat → Int64)
abbrev ra_L : Type := List (Option Value)
/-- how a run ends: it returns, or comes to the place where it is to stop -/
abbrev ra_R : Type := (Option Value ⊕ (ra_L × List Value)) × ra_S
/-- the cells that are there, what is read of the script, where to stop, the method -/
abbrev ra_K : Type := (Nat → Option ra_H) × Option (Nat × (Nat → Int32)) × Nat × ra_M
def ra_ui (σ : ra_S) (i k : Nat) (x : Int32) : ra_S := (fun a => if a = i then upd (σ.1 a) k x else σ.1 a, σ.2)
def ra_ul (σ : ra_S) (i k : Nat) (x : Int64) : ra_S := (σ.1, fun a => if a = i then vp_updL (σ.2 a) k x else σ.2 a)
def ra_cp (σ : ra_S) (i j n : Nat) : ra_S := (fun a => if a = j then va_cpy (σ.1 i) (σ.1 j) 0 0 n else σ.1 a, σ.2)
def ra_nth : ra_L → Nat → Option Value
  | [], _ => none
  | a :: _, 0 => a
  | _ :: t, i + 1 => ra_nth t i
/-- the place behind a long is free -/
def ra_fr : ra_L → Nat → Bool
  | [], _ => false
  | a :: _, 0 => a.isNone
  | _ :: t, i + 1 => ra_fr t i
def ra_st (lo : ra_L) (i : Nat) (v : Value) : ra_L := lo.set i (some v)
def ra_st2 (lo : ra_L) (i : Nat) (v : Value) : ra_L := (lo.set i (some v)).set (i + 1) none
def ra_lo0 : Nat → List Value → ra_L
  | n, [] => List.replicate n none
  | 0, _ :: _ => []
  | n + 1, .long x :: vs => some (.long x) :: (match n with | 0 => [] | k + 1 => none :: ra_lo0 k vs)
  | _ + 1, .double _ :: _ => []
  | n + 1, v :: vs => some v :: ra_lo0 n vs
def ra_pop : Nat → List Value → List Value → Option (List Value × List Value)
  | 0, as, st => some (as, st)
  | n + 1, as, v :: st => ra_pop n (v :: as) st
  | _ + 1, _, [] => none
/-- instructions that touch locals and stack alone -/
def ra_sx (e : ra_E) (lo : ra_L) (st : List Value) : Option (ra_L × List Value) :=
  match e.1 with
  | .iconst _ => some (lo, .int e.2.2.2.2.1 :: st)
  | .bipush _ => some (lo, .int e.2.2.2.2.1 :: st)
  | .sipush _ => some (lo, .int e.2.2.2.2.1 :: st)
  | .ldc _ => some (lo, .int e.2.2.2.2.1 :: st)
  | .ldc_w _ => some (lo, .int e.2.2.2.2.1 :: st)
  | .lconst _ => some (lo, .long e.2.2.2.2.2 :: st)
  | .ldc2_w _ => some (lo, .long e.2.2.2.2.2 :: st)
  | .iload i => match ra_nth lo i with
    | some (.int x) => some (lo, .int x :: st)
    | _ => none
  | .iload_n i => match ra_nth lo i with
    | some (.int x) => some (lo, .int x :: st)
    | _ => none
  | .aload i => match ra_nth lo i with
    | some (.ref x) => some (lo, .ref x :: st)
    | _ => none
  | .aload_n i => match ra_nth lo i with
    | some (.ref x) => some (lo, .ref x :: st)
    | _ => none
  | .lload i => match ra_nth lo i with
    | some (.long x) => bif ra_fr lo (i + 1) then some (lo, .long x :: st) else none
    | _ => none
  | .lload_n i => match ra_nth lo i with
    | some (.long x) => bif ra_fr lo (i + 1) then some (lo, .long x :: st) else none
    | _ => none
  | .istore i => match st with
    | .int x :: r => some (ra_st lo i (.int x), r)
    | _ => none
  | .istore_n i => match st with
    | .int x :: r => some (ra_st lo i (.int x), r)
    | _ => none
  | .astore i => match st with
    | .ref x :: r => some (ra_st lo i (.ref x), r)
    | _ => none
  | .astore_n i => match st with
    | .ref x :: r => some (ra_st lo i (.ref x), r)
    | _ => none
  | .lstore i => match st with
    | .long x :: r => some (ra_st2 lo i (.long x), r)
    | _ => none
  | .lstore_n i => match st with
    | .long x :: r => some (ra_st2 lo i (.long x), r)
    | _ => none
  | .iinc i _ => match ra_nth lo i with
    | some (.int x) => some (ra_st lo i (.int (x + e.2.2.2.2.1)), st)
    | _ => none
  | .iadd => match st with
    | .int y :: .int x :: r => some (lo, .int (x + y) :: r)
    | _ => none
  | .isub => match st with
    | .int y :: .int x :: r => some (lo, .int (x - y) :: r)
    | _ => none
  | .imul => match st with
    | .int y :: .int x :: r => some (lo, .int (x * y) :: r)
    | _ => none
  | .ineg => match st with
    | .int x :: r => some (lo, .int (-x) :: r)
    | _ => none
  | .ishl => match st with
    | .int y :: .int x :: r => some (lo, .int (x <<< (y &&& 31)) :: r)
    | _ => none
  | .ishr => match st with
    | .int y :: .int x :: r => some (lo, .int (x >>> (y &&& 31)) :: r)
    | _ => none
  | .iushr => match st with
    | .int y :: .int x :: r => some (lo, .int (x.toUInt32 >>> (y.toUInt32 &&& Int32.toUInt32 31)).toInt32 :: r)
    | _ => none
  | .iand => match st with
    | .int y :: .int x :: r => some (lo, .int (x &&& y) :: r)
    | _ => none
  | .ior => match st with
    | .int y :: .int x :: r => some (lo, .int (x ||| y) :: r)
    | _ => none
  | .ixor => match st with
    | .int y :: .int x :: r => some (lo, .int (x ^^^ y) :: r)
    | _ => none
  | .ladd => match st with
    | .long y :: .long x :: r => some (lo, .long (x + y) :: r)
    | _ => none
  | .lsub => match st with
    | .long y :: .long x :: r => some (lo, .long (x - y) :: r)
    | _ => none
  | .lmul => match st with
    | .long y :: .long x :: r => some (lo, .long (x * y) :: r)
    | _ => none
  | .lneg => match st with
    | .long x :: r => some (lo, .long (-x) :: r)
    | _ => none
  | .land => match st with
    | .long y :: .long x :: r => some (lo, .long (x &&& y) :: r)
    | _ => none
  | .lor => match st with
    | .long y :: .long x :: r => some (lo, .long (x ||| y) :: r)
    | _ => none
  | .lxor => match st with
    | .long y :: .long x :: r => some (lo, .long (x ^^^ y) :: r)
    | _ => none
  | .lshr => match st with
    | .int y :: .long x :: r => some (lo, .long (x >>> (y.toInt64 &&& 63)) :: r)
    | _ => none
  | .lcmp => match st with
    | .long y :: .long x :: r => some (lo, .int (lg_cmp x y) :: r)
    | _ => none
  | .i2l => match st with
    | .int x :: r => some (lo, .long x.toInt64 :: r)
    | _ => none
  | .l2i => match st with
    | .long x :: r => some (lo, .int x.toInt32 :: r)
    | _ => none
  | .dup => match st with
    | .int x :: r => some (lo, .int x :: .int x :: r)
    | .ref x :: r => some (lo, .ref x :: .ref x :: r)
    | _ => none
  | .dup2 => match st with
    | .int x :: .ref y :: r => some (lo, .int x :: .ref y :: .int x :: .ref y :: r)
    | _ => none
  | .pop => match st with
    | .int _ :: r => some (lo, r)
    | .ref _ :: r => some (lo, r)
    | _ => none
  | _ => none
/-- what a read field holds -/
def ra_fa (σ : ra_S) (i k : Nat) : (Bool ⊕ Nat) → Value
  | .inl false => .int (σ.1 i k)
  | .inl true => .long (σ.2 i k)
  | .inr j => .ref j
def ra_tsw {α : Type} (k : Nat → α) (pc : Nat) (x : Int32) (d : α) : Int → List Int → α
  | _, [] => d
  | v, o :: os => if x = Int32.ofInt v then k (((pc : Int) + o).toNat) else ra_tsw k pc x d (v + 1) os
def ra_lsw {α : Type} (k : Nat → α) (pc : Nat) (x : Int32) (d : α) : List (Int × Int) → α
  | [] => d
  | o :: os => if x = Int32.ofInt o.1 then k (((pc : Int) + o.2).toNat) else ra_lsw k pc x d os
def ra_ki (k : Int32 → ra_S → Option ra_R) (r : ra_R) : Option ra_R := match r with
  | (.inl (some (.int x)), σ) => k x σ
  | _ => none
def ra_kl (k : Int64 → ra_S → Option ra_R) (r : ra_R) : Option ra_R := match r with
  | (.inl (some (.long x)), σ) => k x σ
  | _ => none
def ra_kv (k : ra_S → Option ra_R) (r : ra_R) : Option ra_R := match r with
  | (.inl none, σ) => k σ
  | _ => none
def ra_gd {α : Type} (b : Bool) (x : Option α) : Option α := match b with
  | true => x
  | false => none
def ra_gp {α : Type} (c : Prop) [Decidable c] (x : Option α) : Option α := if c then x else none
abbrev ra_F : Type := ra_K → Nat → ra_L → List Value → ra_S → Option ra_R
/-- a call of method ν, its arguments as, the stack below r -/
def ra_inv (f : ra_F) (κ : ra_K) (pc : Nat) (lo : ra_L) (r : List Value) (σ : ra_S) (ν : Nat) (as : List Value) : Option ra_R :=
  ra_gd (Nat.ble (r.map fun v => v.category).sum 8 && Nat.ble (as.map fun v => v.category).sum (ra_mt ν).2.2.2.1.1) (match (ra_mt ν).2.2.2.1.2 with
    | some .int => (f (κ.1, none, 99999, ra_mt ν) 0 (ra_lo0 (ra_mt ν).2.2.2.1.1 as) [] σ).bind (ra_ki fun x σ1 => f κ (pc + 3) lo (.int x :: r) σ1)
    | some .boolean => (f (κ.1, none, 99999, ra_mt ν) 0 (ra_lo0 (ra_mt ν).2.2.2.1.1 as) [] σ).bind (ra_ki fun x σ1 => f κ (pc + 3) lo (.int x :: r) σ1)
    | some .long => (f (κ.1, none, 99999, ra_mt ν) 0 (ra_lo0 (ra_mt ν).2.2.2.1.1 as) [] σ).bind (ra_kl fun x σ1 => f κ (pc + 3) lo (.long x :: r) σ1)
    | none => (f (κ.1, none, 99999, ra_mt ν) 0 (ra_lo0 (ra_mt ν).2.2.2.1.1 as) [] σ).bind (ra_kv fun σ1 => f κ (pc + 3) lo r σ1)
    | _ => none)
/-- System.arraycopy of ints, from the first place to the first -/
def ra_ac (f : ra_F) (κ : ra_K) (pc : Nat) (lo : ra_L) (st : List Value) (σ : ra_S) : Option ra_R := match st with
  | .int m :: .int dp :: .ref j :: .int sp :: .ref i :: r => match κ.1 i with
    | some (.inl (0, m0)) => match κ.1 j with
      | some (.inl (0, m1)) => if sp = 0 ∧ dp = 0 ∧ 0 ≤ m.toInt ∧ m.toInt ≤ (m0 : Int) ∧ m.toInt ≤ (m1 : Int) then
          ra_gd (Nat.ble (r.map fun v => v.category).sum 8) (f κ (pc + 3) lo r (ra_cp σ i j m.toNatClampNeg)) else none
      | _ => none
    | _ => none
  | _ => none
/-- branches -/
def ra_br (c : Jvm.ClassFile.Cond) (x y : Int32) (a b : Option ra_R) : Option ra_R := match c with
  | .eq => if x = y then a else b
  | .ne => if x = y then b else a
  | .lt => if x < y then a else b
  | .ge => if x < y then b else a
  | .gt => if y < x then a else b
  | .le => if y < x then b else a
/-- an element is read or written: the row's type and length, the place -/
def ra_el (lay : Nat → Option ra_H) (ty : Nat) (i : Nat) (j : Int32) (x : Option ra_R) : Option ra_R := match lay i with
  | some (.inl (ty', m)) => ra_gd (Nat.beq ty' ty) (if 0 ≤ j.toInt ∧ j.toInt < (m : Int) then x else none)
  | _ => none
def ra_fd (lay : Nat → Option ra_H) (i ci k : Nat) (x : (Bool ⊕ Nat) → Option ra_R) : Option ra_R := match lay i with
  | some (.inr (ci', fks)) => ra_gd (Nat.beq ci' ci) (match fks[k]? with
    | some fk => x fk
    | none => none)
  | _ => none
/-- one step, with f for what follows -/
def ra_step (f : ra_F) (κ : ra_K) (pc : Nat) (lo : ra_L) (st : List Value) (σ : ra_S) : Option ra_R :=
  match Nat.beq pc κ.2.2.1 with
  | true => some (.inr (lo, st), σ)
  | false => match κ.2.2.2.2.2.2.2.2.2 pc with
    | none => none
    | some e =>
      match e.1 with
      | .goto _ => f κ e.2.2.1 lo st σ
      | .if_icmp cnd _ => match st with
        | .int y :: .int x :: r => ra_br cnd x y (f κ e.2.2.1 lo r σ) (f κ (pc + 3) lo r σ)
        | _ => none
      | .ifCond cnd _ => match st with
        | .int x :: r => ra_br cnd x 0 (f κ e.2.2.1 lo r σ) (f κ (pc + 3) lo r σ)
        | _ => none
      | .tableswitch d low _ offs => match st with
        | .int x :: r => ra_tsw (fun t => f κ t lo r σ) pc x (f κ (((pc : Int) + d).toNat) lo r σ) low offs.toList
        | _ => none
      | .lookupswitch d ps => match st with
        | .int x :: r => ra_lsw (fun t => f κ t lo r σ) pc x (f κ (((pc : Int) + d).toNat) lo r σ) ps.toList
        | _ => none
      | .ireturn => match st with
        | [.int v] => match κ.2.2.2.2.2.2.1.2 with
          | some .int => some (.inl (some (.int v)), σ)
          | some .boolean => if v = 0 ∨ v = 1 then some (.inl (some (.int v)), σ) else none
          | _ => none
        | _ => none
      | .lreturn => match st with
        | [.long v] => match κ.2.2.2.2.2.2.1.2 with
          | some .long => some (.inl (some (.long v)), σ)
          | _ => none
        | _ => none
      | .return_ => match st with
        | [] => match κ.2.2.2.2.2.2.1.2 with
          | none => some (.inl none, σ)
          | _ => none
        | _ => none
      | .idiv => match st with
        | .int y :: .int x :: r => if y = 0 then none else f κ (pc + 1) lo (.int (x / y) :: r) σ
        | _ => none
      | .irem => match st with
        | .int y :: .int x :: r => if y = 0 then none else f κ (pc + 1) lo (.int (x - x / y * y) :: r) σ
        | _ => none
      | .ldiv => match st with
        | .long y :: .long x :: r => if y = 0 then none else f κ (pc + 1) lo (.long (x / y) :: r) σ
        | _ => none
      | .lrem => match st with
        | .long y :: .long x :: r => if y = 0 then none else f κ (pc + 1) lo (.long (x - x / y * y) :: r) σ
        | _ => none
      | .getfield _ => match st with
        | .ref i :: r => ra_fd κ.1 i e.2.2.1 e.2.2.2.1 (fun fk => f κ (pc + 3) lo (ra_fa σ i e.2.2.2.1 fk :: r) σ)
        | _ => none
      | .putfield _ => match st with
        | .int x :: .ref i :: r => ra_fd κ.1 i e.2.2.1 e.2.2.2.1 (fun fk => match fk with
            | .inl false => ra_gp (ra_bo e.2.2.1 e.2.2.2.1 = 0 ∨ x = 0 ∨ x = 1) (f κ (pc + 3) lo r (ra_ui σ i e.2.2.2.1 x))
            | _ => none)
        | .long x :: .ref i :: r => ra_fd κ.1 i e.2.2.1 e.2.2.2.1 (fun fk => match fk with
            | .inl true => f κ (pc + 3) lo r (ra_ul σ i e.2.2.2.1 x)
            | _ => none)
        | _ => none
      | .iaload => match st with
        | .int j :: .ref i :: r => match Nat.beq i 999 with
          | true => match κ.2.1 with
            | some xs => if 0 ≤ j.toInt ∧ j.toInt < (xs.1 : Int) then f κ (pc + 1) lo (.int (xs.2 j.toNatClampNeg) :: r) σ else none
            | none => none
          | false => ra_el κ.1 0 i j (f κ (pc + 1) lo (.int (σ.1 i j.toNatClampNeg) :: r) σ)
        | _ => none
      | .baload => match st with
        | .int j :: .ref i :: r => ra_el κ.1 1 i j (f κ (pc + 1) lo (.int (σ.1 i j.toNatClampNeg) :: r) σ)
        | _ => none
      | .laload => match st with
        | .int j :: .ref i :: r => ra_el κ.1 2 i j (f κ (pc + 1) lo (.long (σ.2 i j.toNatClampNeg) :: r) σ)
        | _ => none
      | .iastore => match st with
        | .int x :: .int j :: .ref i :: r => ra_el κ.1 0 i j (f κ (pc + 1) lo r (ra_ui σ i j.toNatClampNeg x))
        | _ => none
      | .bastore => match st with
        | .int x :: .int j :: .ref i :: r => ra_el κ.1 1 i j (ra_gp (x = 0 ∨ x = 1) (f κ (pc + 1) lo r (ra_ui σ i j.toNatClampNeg x)))
        | _ => none
      | .lastore => match st with
        | .long x :: .int j :: .ref i :: r => ra_el κ.1 2 i j (f κ (pc + 1) lo r (ra_ul σ i j.toNatClampNeg x))
        | _ => none
      | .arraylength => match st with
        | .ref i :: r => match Nat.beq i 999 with
          | true => match κ.2.1 with
            | some xs => f κ (pc + 1) lo (.int (Int32.ofNat xs.1) :: r) σ
            | none => none
          | false => match κ.1 i with
            | some (.inl q) => f κ (pc + 1) lo (.int (Int32.ofNat q.2) :: r) σ
            | _ => none
        | _ => none
      | .invokestatic _ => match Nat.beq e.2.2.2.1 1 with
        | true => ra_ac f κ pc lo st σ
        | false => match ra_pop (ra_mt e.2.2.1).2.2.2.2.1.2 [] st with
          | some q => ra_gd (ra_mt e.2.2.1).2.2.2.2.1.1 (ra_inv f κ pc lo q.2 σ e.2.2.1 q.1)
          | none => none
      | .invokevirtual _ => match ra_pop (ra_mt e.2.2.1).2.2.2.2.1.2 [] st with
        | some q => match q.2 with
          | .ref i :: r => match κ.1 i with
            | some (.inr o) => ra_gd (Nat.beq o.1 (ra_mt e.2.2.1).1 && !(ra_mt e.2.2.1).2.2.2.2.1.1) (ra_inv f κ pc lo r σ e.2.2.1 (.ref i :: q.1))
            | _ => none
          | _ => none
        | none => none
      | _ => match ra_sx e lo st with
        | some q => f κ (pc + e.2.1) q.1 q.2 σ
        | none => none
/-- the machine: n steps at most -/
def ra_rn : Nat → ra_K → Nat → ra_L → List Value → ra_S → Option ra_R
  | 0, _, _, _, _, _ => none
  | n + 1, κ, pc, lo, st, σ => ra_step (ra_rn n) κ pc lo st σ
