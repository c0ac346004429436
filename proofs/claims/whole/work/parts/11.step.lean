/-! ===== methods as data, the step function ===== -/
/-- own class; fields: number, class, slot, final, kind of type (0 int, 1 boolean, 2 long, 3 reference); constants; new; anewarray; Object.<init> -/
abbrev CI : Type := String × List (Nat × Nat × Nat × Bool × Nat) × List (Nat × Value) × List (Nat × Nat) × List (Nat × Nat) × List Nat × List (Nat × MethodName)
/-- pc, instruction, length, its number, its target -/
abbrev IE : Type := Nat × Instr × Nat × Int32 × Nat
/-- class, name, bytes, locals, return, kind (0 static, 1 of an object, 2 a constructor), parameters, instructions -/
abbrev MI : Type := CI × MethodName × ByteArray × Nat × Option FieldType × Nat × Nat × List IE
abbrev mO (m : MI) : String := m.1.1
abbrev mY (m : MI) : MethodName := m.2.1
abbrev mB (m : MI) : ByteArray := m.2.2.1
abbrev mL (m : MI) : Nat := m.2.2.2.1
abbrev mR (m : MI) : Option FieldType := m.2.2.2.2.1
abbrev mK (m : MI) : Nat := m.2.2.2.2.2.1
abbrev mQ (m : MI) : Bool := Nat.beq m.2.2.2.2.2.1 2
abbrev mP (m : MI) : Nat := m.2.2.2.2.2.2.1
abbrev mT (m : MI) : List IE := m.2.2.2.2.2.2.2
abbrev mG (m : MI) : List (Nat × MethodName) := m.1.2.2.2.2.2.2
def lk {α : Type} : List (Nat × α) → Nat → Option α
  | [], _ => none
  | q :: t, n => match Nat.beq q.1 n with
    | true => some q.2
    | false => lk t n
theorem lk_mem {α : Type} : ∀ {l : List (Nat × α)} {n : Nat} {x : α}, lk l n = some x → (n, x) ∈ l
  | [], _, _, h => by cases h
  | q :: t, n, x, h => by
    unfold lk at h
    cases hb : Nat.beq q.1 n with
    | true =>
      rw [hb] at h
      have e1 := Nat.eq_of_beq_eq_true hb
      cases h
      rw [← e1]
      exact List.mem_cons_self
    | false =>
      rw [hb] at h
      exact List.mem_cons_of_mem _ (lk_mem h)
def AllP : List Prop → Prop
  | [] => True
  | c :: cs => c ∧ AllP cs
def upI (I : AI) (n k : Nat) (x : Int32) : AI := fun a b => if a = n then (if b = k then x else I a b) else I a b
def upJ (J : AJ) (n k : Nat) (x : Int64) : AJ := fun a b => if a = n then (if b = k then x else J a b) else J a b
def zeI (I : AI) (n : Nat) : AI := fun a b => if a = n then 0 else I a b
def zeJ (J : AJ) (n : Nat) : AJ := fun a b => if a = n then 0 else J a b
def inv1 (L : List (Option Value)) (i : Nat) : List (Option Value) := match i with
  | 0 => L
  | j + 1 => match L[j]? with
    | some (some (.long _)) => L.set j none
    | some (some (.double _)) => L.set j none
    | _ => L
def set1 (L : List (Option Value)) (i : Nat) (v : Value) : List (Option Value) := (inv1 L i).set i (some v)
def set2 (L : List (Option Value)) (i : Nat) (v : Value) : List (Option Value) := ((inv1 L i).set i (some v)).set (i + 1) none
/-- pc, locals, stack, shapes, ints, longs, cells made, slots made -/
abbrev AS : Type := Nat × List (Option Value) × List Value × List Sh × AI × AJ × Nat × Nat
def bz (x : Int32) : Prop := x = 0 ∨ x = 1
def kval (I : AI) (J : AJ) (n k : Nat) : Kd → Value
  | .inl 0 => .int (I n k)
  | .inl (_ + 1) => .long (J n k)
  | .inr none => .null
  | .inr (some a) => .ref a
def rref : Option Nat → Value
  | none => .null
  | some a => .ref a
def blk (ci : Nat) : List Kd := match ci with
  | 0 => [.inl 1, .inl 1]
  | 1 => [.inr none, .inr none, .inr none, .inr none, .inr none, .inr none, .inl 0, .inl 0, .inl 0, .inl 0]
  | 2 => [.inr none, .inr none, .inr none, .inr none, .inr none, .inr none]
  | 3 => [.inr none, .inr none, .inr none, .inl 0, .inl 0, .inl 0, .inl 0]
  | 4 => [.inr none, .inr none, .inr none, .inl 0, .inl 0]
  | 5 => [.inr none, .inr none, .inr none, .inr none, .inl 0, .inl 0, .inl 0, .inl 0, .inl 0, .inl 0, .inr none]
  | 6 => [.inr none, .inr none, .inr none, .inr none, .inr none, .inr none, .inr none, .inl 0, .inl 0]
  | 7 => [.inr none, .inr none, .inr none, .inr none, .inr none, .inr none, .inr none, .inl 0]
  | 8 => [.inr none, .inr none, .inr none]
  | 9 => [.inr none, .inr none, .inr none, .inr none, .inr none, .inr none, .inr none, .inr none, .inr none, .inr none, .inl 0, .inl 0]
  | 10 => [.inr none, .inr none, .inr none, .inr none, .inr none, .inr none, .inr none, .inr none, .inr none, .inr none, .inr none, .inl 0]
  | 11 => [.inr none, .inr none, .inr none, .inr none, .inr none, .inr none, .inr none, .inr none, .inr none, .inr none, .inr none, .inr none, .inr none, .inr none, .inl 0, .inl 0]
  | 12 => [.inl 0, .inr none, .inr none, .inr none, .inr none, .inl 0, .inl 0, .inl 0, .inr none, .inr none, .inr none, .inr none, .inr none, .inl 0, .inr none, .inr none, .inr none, .inr none, .inr none, .inr none, .inr none, .inr none, .inr none, .inl 0, .inl 0, .inl 0, .inl 0, .inl 0, .inr none, .inl 0, .inr none, .inr none, .inr none, .inr none, .inr none, .inr none, .inl 0, .inl 0, .inr none, .inl 0, .inl 0, .inl 0, .inl 0, .inl 0, .inl 0, .inl 0, .inr none, .inr none, .inr none, .inr none, .inr none, .inr none, .inr none, .inr none, .inr none, .inr none, .inr none, .inr none, .inr none, .inr none, .inr none, .inr none]
  | _ => []
def opII (f : Int32 → Int32 → Int32) (q : List Value → Option (List Prop × AS)) : List Value → Option (List Prop × AS)
  | .int y :: .int x :: r => q (.int (f x y) :: r)
  | _ => none
def opLL (f : Int64 → Int64 → Int64) (q : List Value → Option (List Prop × AS)) : List Value → Option (List Prop × AS)
  | .long y :: .long x :: r => q (.long (f x y) :: r)
  | _ => none
/-- one instruction, where it neither branches nor calls: what must hold, and the state behind it -/
def sti (γ : GE) (m : MI) (mc ms : Nat) (ins : Instr) (n : Nat) (v : Int32) (t : Nat) (σ : AS) : Option (List Prop × AS) := match σ with
  | (pc, L, st, S, I, J, k, u) => match ins with
    | .iconst _ => some ([], pc + n, L, .int v :: st, S, I, J, k, u)
    | .bipush _ => some ([], pc + n, L, .int v :: st, S, I, J, k, u)
    | .sipush _ => some ([], pc + n, L, .int v :: st, S, I, J, k, u)
    | .lconst z => some ([], pc + n, L, .long (match z.val with | 0 => 0 | _ => 1) :: st, S, I, J, k, u)
    | .iload_n z => match L[z.val]? with
      | some (some (.int x)) => some ([], pc + n, L, .int x :: st, S, I, J, k, u)
      | _ => none
    | .iload z => match L[z]? with
      | some (some (.int x)) => some ([], pc + n, L, .int x :: st, S, I, J, k, u)
      | _ => none
    | .lload_n z => match L[z.val]? with
      | some (some (.long x)) => some ([], pc + n, L, .long x :: st, S, I, J, k, u)
      | _ => none
    | .lload z => match L[z]? with
      | some (some (.long x)) => some ([], pc + n, L, .long x :: st, S, I, J, k, u)
      | _ => none
    | .aload_n z => match L[z.val]? with
      | some (some (.ref x)) => some ([], pc + n, L, .ref x :: st, S, I, J, k, u)
      | some (some (.retAddr x)) => some ([], pc + n, L, .retAddr x :: st, S, I, J, k, u)
      | some (some (.null)) => some ([], pc + n, L, .null :: st, S, I, J, k, u)
      | _ => none
    | .aload z => match L[z]? with
      | some (some (.ref x)) => some ([], pc + n, L, .ref x :: st, S, I, J, k, u)
      | some (some (.retAddr x)) => some ([], pc + n, L, .retAddr x :: st, S, I, J, k, u)
      | some (some (.null)) => some ([], pc + n, L, .null :: st, S, I, J, k, u)
      | _ => none
    | .istore_n z => match st with
      | .int x :: r => if z.val < mL m then some ([], pc + n, set1 L z.val (.int x), r, S, I, J, k, u) else none
      | _ => none
    | .istore z => match st with
      | .int x :: r => if z < mL m then some ([], pc + n, set1 L z (.int x), r, S, I, J, k, u) else none
      | _ => none
    | .lstore_n z => match st with
      | .long x :: r => if z.val + 1 < mL m then some ([], pc + n, set2 L z.val (.long x), r, S, I, J, k, u) else none
      | _ => none
    | .lstore z => match st with
      | .long x :: r => if z + 1 < mL m then some ([], pc + n, set2 L z (.long x), r, S, I, J, k, u) else none
      | _ => none
    | .astore_n z => match st with
      | .ref x :: r => if z.val < mL m then some ([], pc + n, set1 L z.val (.ref x), r, S, I, J, k, u) else none
      | .retAddr x :: r => if z.val < mL m then some ([], pc + n, set1 L z.val (.retAddr x), r, S, I, J, k, u) else none
      | .null :: r => if z.val < mL m then some ([], pc + n, set1 L z.val (.null), r, S, I, J, k, u) else none
      | _ => none
    | .astore z => match st with
      | .ref x :: r => if z < mL m then some ([], pc + n, set1 L z (.ref x), r, S, I, J, k, u) else none
      | .retAddr x :: r => if z < mL m then some ([], pc + n, set1 L z (.retAddr x), r, S, I, J, k, u) else none
      | .null :: r => if z < mL m then some ([], pc + n, set1 L z (.null), r, S, I, J, k, u) else none
      | _ => none
    | .iinc z _ => match L[z]? with
      | some (some (.int x)) => if z < mL m then some ([], pc + n, set1 L z (.int (x + v)), st, S, I, J, k, u) else none
      | _ => none
    | .iadd => match st with
      | .int y :: .int x :: r => some ([], pc + n, L, .int (x + y) :: r, S, I, J, k, u)
      | _ => none
    | .isub => match st with
      | .int y :: .int x :: r => some ([], pc + n, L, .int (x - y) :: r, S, I, J, k, u)
      | _ => none
    | .imul => match st with
      | .int y :: .int x :: r => some ([], pc + n, L, .int (x * y) :: r, S, I, J, k, u)
      | _ => none
    | .iand => match st with
      | .int y :: .int x :: r => some ([], pc + n, L, .int (x &&& y) :: r, S, I, J, k, u)
      | _ => none
    | .ior => match st with
      | .int y :: .int x :: r => some ([], pc + n, L, .int (x ||| y) :: r, S, I, J, k, u)
      | _ => none
    | .ixor => match st with
      | .int y :: .int x :: r => some ([], pc + n, L, .int (x ^^^ y) :: r, S, I, J, k, u)
      | _ => none
    | .ishl => match st with
      | .int y :: .int x :: r => some ([], pc + n, L, .int (x <<< (y &&& 31)) :: r, S, I, J, k, u)
      | _ => none
    | .ishr => match st with
      | .int y :: .int x :: r => some ([], pc + n, L, .int (x >>> (y &&& 31)) :: r, S, I, J, k, u)
      | _ => none
    | .iushr => match st with
      | .int y :: .int x :: r => some ([], pc + n, L, .int ((x.toUInt32 >>> (y.toUInt32 &&& Int32.toUInt32 31)).toInt32) :: r, S, I, J, k, u)
      | _ => none
    | .idiv => match st with
      | .int y :: .int x :: r => some ([¬ y = 0], pc + n, L, .int (x / y) :: r, S, I, J, k, u)
      | _ => none
    | .irem => match st with
      | .int y :: .int x :: r => some ([¬ y = 0], pc + n, L, .int (x - x / y * y) :: r, S, I, J, k, u)
      | _ => none
    | .ineg => match st with
      | .int x :: r => some ([], pc + n, L, .int (-x) :: r, S, I, J, k, u)
      | _ => none
    | .ladd => match st with
      | .long y :: .long x :: r => some ([], pc + n, L, .long (x + y) :: r, S, I, J, k, u)
      | _ => none
    | .lsub => match st with
      | .long y :: .long x :: r => some ([], pc + n, L, .long (x - y) :: r, S, I, J, k, u)
      | _ => none
    | .lmul => match st with
      | .long y :: .long x :: r => some ([], pc + n, L, .long (x * y) :: r, S, I, J, k, u)
      | _ => none
    | .land => match st with
      | .long y :: .long x :: r => some ([], pc + n, L, .long (x &&& y) :: r, S, I, J, k, u)
      | _ => none
    | .lor => match st with
      | .long y :: .long x :: r => some ([], pc + n, L, .long (x ||| y) :: r, S, I, J, k, u)
      | _ => none
    | .lxor => match st with
      | .long y :: .long x :: r => some ([], pc + n, L, .long (x ^^^ y) :: r, S, I, J, k, u)
      | _ => none
    | .lcmp => match st with
      | .long y :: .long x :: r => some ([], pc + n, L, .int (lg_cmp x y) :: r, S, I, J, k, u)
      | _ => none
    | .lshl => match st with
      | .int y :: .long x :: r => some ([], pc + n, L, .long (x <<< (y.toInt64 &&& 63)) :: r, S, I, J, k, u)
      | _ => none
    | .lshr => match st with
      | .int y :: .long x :: r => some ([], pc + n, L, .long (x >>> (y.toInt64 &&& 63)) :: r, S, I, J, k, u)
      | _ => none
    | .lushr => match st with
      | .int y :: .long x :: r => some ([], pc + n, L, .long (x.toUInt64 >>> (y.toInt64.toUInt64 &&& Int64.toUInt64 63)).toInt64 :: r, S, I, J, k, u)
      | _ => none
    | .i2l => match st with
      | .int x :: r => some ([], pc + n, L, .long x.toInt64 :: r, S, I, J, k, u)
      | _ => none
    | .l2i => match st with
      | .long x :: r => some ([], pc + n, L, .int x.toInt32 :: r, S, I, J, k, u)
      | _ => none
    | .i2b => match st with
      | .int x :: r => some ([], pc + n, L, .int x.toInt8.toInt32 :: r, S, I, J, k, u)
      | _ => none
    | .i2c => match st with
      | .int x :: r => some ([], pc + n, L, .int (x.toUInt32 % 65536).toInt32 :: r, S, I, J, k, u)
      | _ => none
    | .dup => match st with
      | .long _ :: _ => none
      | .double _ :: _ => none
      | a :: r => some ([], pc + n, L, a :: a :: r, S, I, J, k, u)
      | _ => none
    | .pop => match st with
      | .long _ :: _ => none
      | .double _ :: _ => none
      | _ :: r => some ([], pc + n, L, r, S, I, J, k, u)
      | _ => none
    | .dup2 => match st with
      | .long x :: r => some ([], pc + n, L, .long x :: .long x :: r, S, I, J, k, u)
      | .int x :: .ref a :: r => some ([], pc + n, L, .int x :: .ref a :: .int x :: .ref a :: r, S, I, J, k, u)
      | _ => none
    | .goto _ => some ([], t, L, st, S, I, J, k, u)
    | .getfield z => match st with
      | .ref a :: r => match lk m.1.2.1 z, S[a]? with
        | some (ci, f, _), some (.inr (cj, ks)) => match Nat.beq ci cj, ks[f]? with
          | true, some kd => some ([], pc + n, L, kval I J a f kd :: r, S, I, J, k, u)
          | _, _ => none
        | _, _ => none
      | _ => none
    | .putfield z => match st with
      | b :: .ref a :: r => match lk m.1.2.1 z, S[a]? with
        | some (ci, f, fi, ty), some (.inr (cj, ks)) => match Nat.beq ci cj && (!fi || mQ m), ks[f]?, ty, b with
          | true, some (.inl 0), 0, .int x => some ([], pc + n, L, r, S, upI I a f x, J, k, u)
          | true, some (.inl 0), 1, .int x => some ([bz x], pc + n, L, r, S, upI I a f x, J, k, u)
          | true, some (.inl 1), 2, .long x => some ([], pc + n, L, r, S, I, upJ J a f x, k, u)
          | true, some (.inr _), 3, .ref x => some ([], pc + n, L, r, S.set a (.inr (cj, ks.set f (.inr (some x)))), I, J, k, u)
          | true, some (.inr _), 3, .null => some ([], pc + n, L, r, S.set a (.inr (cj, ks.set f (.inr none))), I, J, k, u)
          | _, _, _, _ => none
        | _, _ => none
      | _ => none
    | .iaload => match st with
      | .int x :: .ref a :: r => match S[a]? with
        | some (.inl (.int, nn, _)) => some ([vp_in x nn], pc + n, L, .int (I a x.toNatClampNeg) :: r, S, I, J, k, u)
        | _ => none
      | .int x :: .retAddr 0 :: r => some ([vp_in x (g_xn γ)], pc + n, L, .int (g_xs γ x.toNatClampNeg) :: r, S, I, J, k, u)
      | _ => none
    | .baload => match st with
      | .int x :: .ref a :: r => match S[a]? with
        | some (.inl (.boolean, nn, _)) => some ([vp_in x nn], pc + n, L, .int (I a x.toNatClampNeg) :: r, S, I, J, k, u)
        | _ => none
      | _ => none
    | .laload => match st with
      | .int x :: .ref a :: r => match S[a]? with
        | some (.inl (.long, nn, _)) => some ([vp_in x nn], pc + n, L, .long (J a x.toNatClampNeg) :: r, S, I, J, k, u)
        | _ => none
      | _ => none
    | .aaload => match st with
      | .int x :: .ref a :: r => match S[a]? with
        | some (.inl (.object C, nn, rs)) => some ([vp_in x nn, C = RX0 ∨ C = RX4], pc + n, L, rref (rs.getD x.toNatClampNeg none) :: r, S, I, J, k, u)
        | _ => none
      | _ => none
    | .iastore => match st with
      | .int y :: .int x :: .ref a :: r => match S[a]? with
        | some (.inl (.int, nn, _)) => some ([vp_in x nn], pc + n, L, r, S, upI I a x.toNatClampNeg y, J, k, u)
        | _ => none
      | _ => none
    | .bastore => match st with
      | .int y :: .int x :: .ref a :: r => match S[a]? with
        | some (.inl (.boolean, nn, _)) => some ([vp_in x nn, bz y], pc + n, L, r, S, upI I a x.toNatClampNeg y, J, k, u)
        | _ => none
      | _ => none
    | .lastore => match st with
      | .long y :: .int x :: .ref a :: r => match S[a]? with
        | some (.inl (.long, nn, _)) => some ([vp_in x nn], pc + n, L, r, S, I, upJ J a x.toNatClampNeg y, k, u)
        | _ => none
      | _ => none
    | .arraylength => match st with
      | .ref a :: r => match S[a]? with
        | some (.inl (.int, nn, _)) => some ([], pc + n, L, .int (nI nn) :: r, S, I, J, k, u)
        | some (.inl (.long, nn, _)) => some ([], pc + n, L, .int (nI nn) :: r, S, I, J, k, u)
        | _ => none
      | .retAddr 0 :: r => some ([], pc + n, L, .int (nI (g_xn γ)) :: r, S, I, J, k, u)
      | _ => none
    | .ldc z => match lk m.1.2.2.1 z with
      | some (.int x) => some ([], pc + n, L, .int x :: st, S, I, J, k, u)
      | some (.retAddr x) => some ([], pc + n, L, .retAddr x :: st, S, I, J, k, u)
      | _ => none
    | .ldc_w z => match lk m.1.2.2.1 z with
      | some (.int x) => some ([], pc + n, L, .int x :: st, S, I, J, k, u)
      | _ => none
    | .ldc2_w z => match lk m.1.2.2.1 z with
      | some (.long x) => some ([], pc + n, L, .long x :: st, S, I, J, k, u)
      | _ => none
    | .invokespecial z => match st with
      | .ref _ :: r => match m.1.2.2.2.2.2.1.contains z && Nat.ble (r.map fun v => v.category).sum 8 with
        | true => some ([], pc + n, L, r, S, I, J, k, u)
        | false => none
      | _ => none
    | _ => none
def stp (γ : GE) (m : MI) (mc ms : Nat) (σ : AS) : Option (List Prop × AS) := match lk (mT m) σ.1 with
  | some (ins, n, v, t) => sti γ m mc ms ins n v t σ
  | none => none
def run (γ : GE) (m : MI) (mc ms : Nat) : Nat → AS → Option (List Prop × AS)
  | 0, σ => some ([], σ)
  | j + 1, σ => match stp γ m mc ms σ with
    | some (cs, σ1) => match run γ m mc ms j σ1 with
      | some (ds, σ2) => some (cs ++ ds, σ2)
      | none => none
    | none => none
