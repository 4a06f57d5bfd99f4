abbrev pw_C : Type := (Nat × Nat × (Nat → Int32)) ⊕ ((Nat × Nat × (Nat → Option Nat)) ⊕ (Nat × List pw_V))
abbrev pw_H : Type := List pw_C
abbrev pw_L : Type := List (Option pw_V)
def pw_look : List (Nat × pw_O) → Nat → Option pw_O
  | [], _ => none
  | e :: l, pc => match Nat.beq e.1 pc with
    | true => some e.2
    | false => pw_look l pc
def pw_op (M pc : Nat) : Option pw_O := match pw_ms[M]? with
  | some m => pw_look m.2 pc
  | none => none
def pw_inf (M : Nat) : pw_I := match pw_ms[M]? with
  | some m => m.1
  | none => (⟨"", "", ""⟩, ⟨#[]⟩, 0, none)
def pw_inb (i : Int32) (n : Nat) : Bool := decide (0 ≤ i.toInt) && decide (i.toInt < n)
def pw_cond (c : ClassFile.Cond) (x y : Int32) : Bool := match c with
  | .eq => decide (x = y)
  | .ne => !decide (x = y)
  | .lt => decide (x < y)
  | .ge => decide (y ≤ x)
  | .gt => decide (y < x)
  | .le => decide (x ≤ y)
def pw_bit (x : Int32) : Bool := decide (x = 0) || decide (x = 1)
def pw_kind (k : Nat) (v : pw_V) : Bool := match k, v with
  | 0, .inl _ => true
  | 1, .inl x => pw_bit x
  | 2, .inr _ => true
  | _, _ => false
def pw_sz (c : pw_C) : Nat := match c with
  | .inl (_, n, _) => n
  | .inr (.inl (_, n, _)) => n
  | .inr (.inr (_, fs)) => fs.length
def pw_size (h : pw_H) : Nat := (h.map pw_sz).sum
abbrev pw_S : Type := Nat × pw_L × List pw_V × pw_H
/-- an instruction that is no call and no return -/
def pw_step (o : pw_O) (L : pw_L) (st : List pw_V) (h : pw_H) : Option pw_S := match o with
  | (i, np, t, q) => match i with
    | .iconst z => some (np, L, .inl (Int32.ofInt z) :: st, h)
    | .bipush z => some (np, L, .inl (Int8.ofInt z).toInt32 :: st, h)
    | .sipush z => some (np, L, .inl (Int16.ofInt z).toInt32 :: st, h)
    | .ldc_w _ => some (np, L, .inl (Int32.ofNat t) :: st, h)
    | .aconst_null => some (np, L, .inr none :: st, h)
    | .iload k => match L[k]? with
      | some (some (.inl x)) => some (np, L, .inl x :: st, h)
      | _ => none
    | .iload_n k => match L[k.val]? with
      | some (some (.inl x)) => some (np, L, .inl x :: st, h)
      | _ => none
    | .aload k => match L[k]? with
      | some (some (.inr x)) => some (np, L, .inr x :: st, h)
      | _ => none
    | .aload_n k => match L[k.val]? with
      | some (some (.inr x)) => some (np, L, .inr x :: st, h)
      | _ => none
    | .istore k => match st with
      | .inl x :: st => if k < L.length then some (np, L.set k (some (.inl x)), st, h) else none
      | _ => none
    | .istore_n k => match st with
      | .inl x :: st => if k.val < L.length then some (np, L.set k.val (some (.inl x)), st, h) else none
      | _ => none
    | .astore k => match st with
      | .inr x :: st => if k < L.length then some (np, L.set k (some (.inr x)), st, h) else none
      | _ => none
    | .astore_n k => match st with
      | .inr x :: st => if k.val < L.length then some (np, L.set k.val (some (.inr x)), st, h) else none
      | _ => none
    | .iinc k z => match L[k]? with
      | some (some (.inl x)) => some (np, L.set k (some (.inl (x + Int32.ofInt z))), st, h)
      | _ => none
    | .iadd => match st with
      | .inl y :: .inl x :: st => some (np, L, .inl (x + y) :: st, h)
      | _ => none
    | .isub => match st with
      | .inl y :: .inl x :: st => some (np, L, .inl (x - y) :: st, h)
      | _ => none
    | .imul => match st with
      | .inl y :: .inl x :: st => some (np, L, .inl (x * y) :: st, h)
      | _ => none
    | .iand => match st with
      | .inl y :: .inl x :: st => some (np, L, .inl (x &&& y) :: st, h)
      | _ => none
    | .ior => match st with
      | .inl y :: .inl x :: st => some (np, L, .inl (x ||| y) :: st, h)
      | _ => none
    | .ixor => match st with
      | .inl y :: .inl x :: st => some (np, L, .inl (x ^^^ y) :: st, h)
      | _ => none
    | .ishl => match st with
      | .inl y :: .inl x :: st => some (np, L, .inl (x <<< (y &&& 31)) :: st, h)
      | _ => none
    | .ishr => match st with
      | .inl y :: .inl x :: st => some (np, L, .inl (x >>> (y &&& 31)) :: st, h)
      | _ => none
    | .iushr => match st with
      | .inl y :: .inl x :: st => some (np, L, .inl (x.toUInt32 >>> (y.toUInt32 &&& Int32.toUInt32 31)).toInt32 :: st, h)
      | _ => none
    | .idiv => match st with
      | .inl y :: .inl x :: st => if y = 0 then none else some (np, L, .inl (x / y) :: st, h)
      | _ => none
    | .irem => match st with
      | .inl y :: .inl x :: st => if y = 0 then none else some (np, L, .inl (x - x / y * y) :: st, h)
      | _ => none
    | .ineg => match st with
      | .inl x :: st => some (np, L, .inl (-x) :: st, h)
      | _ => none
    | .dup => match st with
      | v :: st => some (np, L, v :: v :: st, h)
      | _ => none
    | .dup_x1 => match st with
      | v :: w :: st => some (np, L, v :: w :: v :: st, h)
      | _ => none
    | .dup2 => match st with
      | v :: w :: st => some (np, L, v :: w :: v :: w :: st, h)
      | _ => none
    | .pop => match st with
      | _ :: st => some (np, L, st, h)
      | _ => none
    | .ifCond c _ => match st with
      | .inl x :: st => some (bif pw_cond c x 0 then t else np, L, st, h)
      | _ => none
    | .if_icmp c _ => match st with
      | .inl y :: .inl x :: st => some (bif pw_cond c x y then t else np, L, st, h)
      | _ => none
    | .ifnull _ => match st with
      | .inr none :: st => some (t, L, st, h)
      | .inr (some _) :: st => some (np, L, st, h)
      | _ => none
    | .ifnonnull _ => match st with
      | .inr none :: st => some (np, L, st, h)
      | .inr (some _) :: st => some (t, L, st, h)
      | _ => none
    | .goto _ => some (t, L, st, h)
    | .tableswitch _ lo hi _ => match st with
      | .inl x :: st => if x.toInt < lo ∨ hi < x.toInt then some (t, L, st, h) else match q[(x.toInt - lo).toNat]? with
        | some u => some (u, L, st, h)
        | none => none
      | _ => none
    | .getfield _ => match st, q with
      | .inr (some a) :: st, k :: _ => match h[a]? with
        | some (.inr (.inr (c, fs))) => if c = t then match fs[k]? with
          | some v => some (np, L, v :: st, h)
          | none => none else none
        | _ => none
      | _, _ => none
    | .putfield _ => match st, q with
      | v :: .inr (some a) :: st, k :: kd :: _ => match h[a]? with
        | some (.inr (.inr (c, fs))) => if c = t ∧ k < fs.length ∧ pw_kind kd v = true then some (np, L, st, h.set a (.inr (.inr (c, fs.set k v)))) else none
        | _ => none
      | _, _ => none
    | .iaload => match st with
      | .inl i :: .inr (some a) :: st => match h[a]? with
        | some (.inl (g, n, f)) => if g ≠ 1 ∧ pw_inb i n = true then some (np, L, .inl (f i.toNatClampNeg) :: st, h) else none
        | _ => none
      | _ => none
    | .baload => match st with
      | .inl i :: .inr (some a) :: st => match h[a]? with
        | some (.inl (g, n, f)) => if g = 1 ∧ pw_inb i n = true then some (np, L, .inl (f i.toNatClampNeg) :: st, h) else none
        | _ => none
      | _ => none
    | .iastore => match st with
      | .inl x :: .inl i :: .inr (some a) :: st => match h[a]? with
        | some (.inl (g, n, f)) => if g = 0 ∧ pw_inb i n = true then some (np, L, st, h.set a (.inl (g, n, upd f i.toNatClampNeg x))) else none
        | _ => none
      | _ => none
    | .bastore => match st with
      | .inl x :: .inl i :: .inr (some a) :: st => match h[a]? with
        | some (.inl (g, n, f)) => if g = 1 ∧ pw_inb i n = true ∧ pw_bit x = true then some (np, L, st, h.set a (.inl (g, n, upd f i.toNatClampNeg x))) else none
        | _ => none
      | _ => none
    | .aaload => match st with
      | .inl i :: .inr (some a) :: st => match h[a]? with
        | some (.inr (.inl (g, n, f))) => if pw_inb i n = true then some (np, L, .inr (f i.toNatClampNeg) :: st, h) else none
        | _ => none
      | _ => none
    | .aastore => match st with
      | .inr (some v) :: .inl i :: .inr (some a) :: st => match h[a]?, h[v]? with
        | some (.inr (.inl (g, n, f))), some (.inr (.inr (c, _))) => if c = g ∧ pw_inb i n = true then some (np, L, st, h.set a (.inr (.inl (g, n, va_up f i.toNatClampNeg (some v))))) else none
        | _, _ => none
      | _ => none
    | .arraylength => match st with
      | .inr (some a) :: st => match h[a]? with
        | some (.inl (_, n, _)) => some (np, L, .inl (Int32.ofNat n) :: st, h)
        | _ => none
      | _ => none
    | .newarray _ => match st with
      | .inl n :: st => if 0 ≤ n.toInt ∧ n.toInt ≤ 100000 then some (np, L, .inr (some h.length) :: st, h ++ [.inl (t, n.toNatClampNeg, fun _ => 0)]) else none
      | _ => none
    | .anewarray _ => match st with
      | .inl n :: st => if 0 ≤ n.toInt ∧ n.toInt ≤ 100000 then some (np, L, .inr (some h.length) :: st, h ++ [.inr (.inl (t, n.toNatClampNeg, fun _ => none))]) else none
      | _ => none
    | .new _ => some (np, L, .inr (some h.length) :: st, h ++ [.inr (.inr (t, pw_def t))])
    | _ => none
def pw_ent (M : Nat) (as : List pw_V) : pw_L := as.map some ++ List.replicate ((pw_inf M).2.2.1 - as.length) none
/-- what a return answers -/
def pw_ret (M : Nat) (i : Instr) (st : List pw_V) : Option (Option pw_V) := match i, st with
  | .ireturn, [.inl v] => if (pw_inf M).2.2.2 = some .int ∨ ((pw_inf M).2.2.2 = some .boolean ∧ pw_bit v = true) then some (some (.inl v)) else none
  | .areturn, [.inr v] => match (pw_inf M).2.2.2 with
    | some (.object _) => some (some (.inr v))
    | _ => none
  | .return_, [] => if (pw_inf M).2.2.2 = none then some none else none
  | _, _ => none
/-- the arguments of a call, and what lies below them -/
def pw_args (i : Instr) (q : List Nat) (st : List pw_V) (h : pw_H) : Option (List pw_V × List pw_V) := match q with
  | n :: k :: _ => if n ≤ st.length ∧ st.length ≤ n + 9 then (match i with
    | .invokestatic _ => some ((st.take n).reverse, st.drop n)
    | _ => match st.drop n with
      | .inr (some a) :: rest => (match h[a]? with
        | some (.inr (.inr (c, _))) => if c = k then some (.inr (some a) :: (st.take n).reverse, rest) else none
        | _ => none)
      | _ => none) else none
  | _ => none
def pw_isCall (i : Instr) : Bool := match i with
  | .invokestatic _ => true
  | .invokevirtual _ => true
  | .invokespecial _ => true
  | _ => false
def pw_isRet (i : Instr) : Bool := match i with
  | .ireturn => true
  | .areturn => true
  | .return_ => true
  | _ => false
def pw_run : Nat → Nat → Nat → Nat → pw_L → List pw_V → pw_H → Option (Option pw_V × pw_H)
  | 0, _, _, _, _, _, _ => none
  | n + 1, d, M, pc, L, st, h => match pw_op M pc with
    | none => none
    | some o => bif pw_isRet o.1 then (match pw_ret M o.1 st with
        | some r => some (r, h)
        | none => none)
      else bif pw_isCall o.1 then (match d with
        | 0 => none
        | d + 1 => match o.2.2.2 with
          | [_] => (match st with
            | .inr (some _) :: st => if st.length ≤ 8 then pw_run n (d + 1) M o.2.1 L st h else none
            | _ => none)
          | [_, k] => (match st with
            | .inl y :: .inl x :: st => if st.length ≤ 8 then pw_run n (d + 1) M o.2.1 L (.inl (if k = 0 then (if x < y then y else x) else (if y < x then y else x)) :: st) h else none
            | _ => none)
          | q => match pw_args o.1 q st h with
            | none => none
            | some (as, rest) => if as.length ≤ (pw_inf o.2.2.1).2.2.1 then (match pw_run n d o.2.2.1 0 (pw_ent o.2.2.1 as) [] h with
              | none => none
              | some (r, h') => pw_run n (d + 1) M o.2.1 L (r.toList ++ rest) h') else none)
      else match pw_step o L st h with
        | none => none
        | some (pc', L', st', h') => pw_run n d M pc' L' st' h'
