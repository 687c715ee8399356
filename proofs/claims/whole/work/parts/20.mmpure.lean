/-! THE MINI MACHINE, pure part: known locals as a list, the operand stack as a list; one function a kind of instruction; each is sound for the machine (W) by the kit's rows. -/
abbrev mm_L : Type := List (Nat × Value)
def mm_get : mm_L → Nat → Option Value
  | [], _ => none
  | (j, v) :: r, i => cond (Nat.beq j i) (some v) (mm_get r i)
def mm_del1 (i : Nat) : mm_L → mm_L
  | [] => []
  | (j, w) :: r => cond (Nat.beq j i || (Nat.beq (j + 1) i && Nat.beq w.category 2)) (mm_del1 i r) ((j, w) :: mm_del1 i r)
def mm_del2 (i : Nat) : mm_L → mm_L
  | [] => []
  | (j, w) :: r => cond (Nat.beq j i || (Nat.beq j (i + 1) || (Nat.beq (j + 1) i && Nat.beq w.category 2))) (mm_del2 i r) ((j, w) :: mm_del2 i r)
theorem mm_beq (a b : Nat) : Nat.beq a b = (a == b) := by
  cases h : Nat.beq a b with
  | true =>
    have e := Nat.eq_of_beq_eq_true h
    subst e
    simp
  | false =>
    have e := Nat.ne_of_beq_eq_false h
    simp [e]
theorem mm_get_mem : ∀ (lv : mm_L) (i : Nat) (v : Value), mm_get lv i = some v → (i, v) ∈ lv
  | [], i, v, h => by cases h
  | (j, w) :: r, i, v, h => by
    unfold mm_get at h
    cases hb : Nat.beq j i with
    | true =>
      rw [hb] at h
      have e : j = i := Nat.eq_of_beq_eq_true hb
      subst e
      cases h
      exact List.mem_cons_self
    | false =>
      rw [hb] at h
      exact List.mem_cons_of_mem _ (mm_get_mem r i v h)
theorem mm_del1_eq (i : Nat) : ∀ lv : mm_L, lv.filter (fun q => !(q.1 == i) && !(q.1 + 1 == i && q.2.category == 2)) = mm_del1 i lv
  | [] => rfl
  | (j, w) :: r => by
    unfold mm_del1
    rw [List.filter_cons, mm_del1_eq i r]
    simp only [mm_beq]
    cases h1 : (j == i) <;> cases h2 : (j + 1 == i && w.category == 2) <;> rfl
theorem mm_del2_eq (i : Nat) : ∀ lv : mm_L, lv.filter (fun q => !(q.1 == i) && (!(q.1 == i + 1) && !(q.1 + 1 == i && q.2.category == 2))) = mm_del2 i lv
  | [] => rfl
  | (j, w) :: r => by
    unfold mm_del2
    rw [List.filter_cons, mm_del2_eq i r]
    simp only [mm_beq]
    cases h1 : (j == i) <;> cases h3 : (j == i + 1) <;> cases h2 : (j + 1 == i && w.category == 2) <;> rfl
def mm_isInt : Value → Option Value
  | .int x => some (.int x)
  | _ => none
def mm_isLong : Value → Option Value
  | .long x => some (.long x)
  | _ => none
def mm_isRef : Value → Option Value
  | .ref x => some (.ref x)
  | _ => none
/-- what a constant or a load pushes -/
def mm_load (lv : mm_L) (i : Instr) (len : Nat) : Option Value :=
  match i, len with
  | .iconst n, 1 => some (.int (Int32.ofInt n))
  | .bipush n, 2 => some (.int (Int8.ofInt n).toInt32)
  | .sipush n, 3 => some (.int (Int16.ofInt n).toInt32)
  | .lconst n, 1 => some (.long (Int64.ofNat (n : Nat)))
  | .iload_n k, 1 => (mm_get lv k).bind mm_isInt
  | .iload k, 2 => (mm_get lv k).bind mm_isInt
  | .lload_n k, 1 => (mm_get lv k).bind mm_isLong
  | .lload k, 2 => (mm_get lv k).bind mm_isLong
  | .aload_n k, 1 => (mm_get lv k).bind mm_isRef
  | .aload k, 2 => (mm_get lv k).bind mm_isRef
  | _, _ => none
/-- stores: the new locals, the stack below -/
def mm_store (nl : Nat) (lv : mm_L) (i : Instr) (len : Nat) (st : List Value) : Option (mm_L × List Value) :=
  match i, len, st with
  | .istore_n k, 1, .int x :: r => cond (Nat.ble ((k : Nat) + 1) nl) (some (((k : Nat), .int x) :: mm_del1 k lv, r)) none
  | .istore k, 2, .int x :: r => cond (Nat.ble (k + 1) nl) (some ((k, .int x) :: mm_del1 k lv, r)) none
  | .lstore_n k, 1, .long x :: r => cond (Nat.ble ((k : Nat) + 2) nl) (some (((k : Nat), .long x) :: mm_del2 k lv, r)) none
  | .lstore k, 2, .long x :: r => cond (Nat.ble (k + 2) nl) (some ((k, .long x) :: mm_del2 k lv, r)) none
  | .astore_n k, 1, .ref x :: r => cond (Nat.ble ((k : Nat) + 1) nl) (some (((k : Nat), .ref x) :: mm_del1 k lv, r)) none
  | .astore k, 2, .ref x :: r => cond (Nat.ble (k + 1) nl) (some ((k, .ref x) :: mm_del1 k lv, r)) none
  | .iinc k n, 3, r => match mm_get lv k with
    | some (.int x) => cond (Nat.ble (k + 1) nl) (some ((k, .int (x + Int32.ofInt n)) :: mm_del1 k lv, r)) none
    | _ => none
  | _, _, _ => none
/-- arithmetic and the operand stack -/
def mm_arith (i : Instr) (len : Nat) (st : List Value) : Option (List Value) :=
  match i, len, st with
  | .iadd, 1, .int y :: .int x :: r => some (.int (x + y) :: r)
  | .isub, 1, .int y :: .int x :: r => some (.int (x - y) :: r)
  | .imul, 1, .int y :: .int x :: r => some (.int (x * y) :: r)
  | .iand, 1, .int y :: .int x :: r => some (.int (x &&& y) :: r)
  | .idiv, 1, .int y :: .int x :: r => if y = 0 then none else some (.int (x / y) :: r)
  | .ladd, 1, .long y :: .long x :: r => some (.long (x + y) :: r)
  | .lsub, 1, .long y :: .long x :: r => some (.long (x - y) :: r)
  | .lmul, 1, .long y :: .long x :: r => some (.long (x * y) :: r)
  | .land, 1, .long y :: .long x :: r => some (.long (x &&& y) :: r)
  | .lor, 1, .long y :: .long x :: r => some (.long (x ||| y) :: r)
  | .ldiv, 1, .long y :: .long x :: r => if y = 0 then none else some (.long (x / y) :: r)
  | .lrem, 1, .long y :: .long x :: r => if y = 0 then none else some (.long (x - x / y * y) :: r)
  | .lcmp, 1, .long y :: .long x :: r => some (.int (lg_cmp x y) :: r)
  | .i2l, 1, .int x :: r => some (.long x.toInt64 :: r)
  | .l2i, 1, .long x :: r => some (.int x.toInt32 :: r)
  | .lshl, 1, .int y :: .long x :: r => some (.long (x <<< (y.toInt64 &&& 63)) :: r)
  | _, _, _ => none
def mm_stack (i : Instr) (len : Nat) (st : List Value) : Option (List Value) :=
  match i, len, st with
  | .dup, 1, a :: r => cond (Nat.beq a.category 1) (some (a :: a :: r)) none
  | .pop, 1, a :: r => cond (Nat.beq a.category 1) (some r) none
  | .dup_x1, 1, a :: b :: r => cond (Nat.beq a.category 1 && Nat.beq b.category 1) (some (a :: b :: a :: r)) none
  | .dup_x2, 1, a :: b :: d :: r => cond (Nat.beq a.category 1 && (Nat.beq b.category 1 && Nat.beq d.category 1)) (some (a :: b :: d :: a :: r)) none
  | .pop2, 1, a :: r => cond (Nat.beq a.category 2) (some r) none
  | .dup2_x1, 1, a :: b :: r => cond (Nat.beq a.category 2 && Nat.beq b.category 1) (some (a :: b :: a :: r)) none
  | .dup2_x2, 1, a :: b :: d :: r => cond (Nat.beq a.category 2 && (Nat.beq b.category 1 && Nat.beq d.category 1)) (some (a :: b :: d :: a :: r)) none
  | .dup2, 1, .int a :: b :: r => cond (Nat.beq b.category 1) (some (.int a :: b :: .int a :: b :: r)) none
  | .dup2, 1, .ref a :: b :: r => cond (Nat.beq b.category 1) (some (.ref a :: b :: .ref a :: b :: r)) none
  | .dup2, 1, .long a :: r => some (.long a :: .long a :: r)
  | _, _, _ => none
def mm_tgt (pc : Nat) (off : Int) : Option Nat := match (pc : Int) + off with
  | .ofNat t => some t
  | .negSucc _ => none
theorem mm_tgt_ok {pc t : Nat} {off : Int} (h : mm_tgt pc off = some t) : (pc : Int) + off = (t : Int) := by
  unfold mm_tgt at h
  split at h
  · rename_i t' e
    cases h
    rw [e]
    rfl
  · cases h
def mm_br (b : Bool) (pc : Nat) (off : Int) (r : List Value) : Option (Nat × List Value) := (mm_tgt pc off).map (fun t => (cond b t (pc + 3), r))
/-- branches: the next pc, the stack below -/
def mm_jump (pc : Nat) (i : Instr) (len : Nat) (st : List Value) : Option (Nat × List Value) :=
  match i, len, st with
  | .goto off, 3, r => (mm_tgt pc off).map (fun t => (t, r))
  | .ifCond .eq off, 3, .int x :: r => mm_br (decide (x = 0)) pc off r
  | .ifCond .ne off, 3, .int x :: r => mm_br (decide (¬ x = 0)) pc off r
  | .ifCond .lt off, 3, .int x :: r => mm_br (decide (x < 0)) pc off r
  | .ifCond .ge off, 3, .int x :: r => mm_br (decide (0 ≤ x)) pc off r
  | .ifCond .gt off, 3, .int x :: r => mm_br (decide (0 < x)) pc off r
  | .ifCond .le off, 3, .int x :: r => mm_br (decide (x ≤ 0)) pc off r
  | .if_icmp .eq off, 3, .int y :: .int x :: r => mm_br (decide (x = y)) pc off r
  | .if_icmp .ne off, 3, .int y :: .int x :: r => mm_br (decide (¬ x = y)) pc off r
  | .if_icmp .lt off, 3, .int y :: .int x :: r => mm_br (decide (x < y)) pc off r
  | .if_icmp .ge off, 3, .int y :: .int x :: r => mm_br (decide (y ≤ x)) pc off r
  | .if_icmp .gt off, 3, .int y :: .int x :: r => mm_br (decide (y < x)) pc off r
  | .if_icmp .le off, 3, .int y :: .int x :: r => mm_br (decide (x ≤ y)) pc off r
  | .if_acmp .eq off, 3, .ref y :: .ref x :: r => mm_br (decide (x = y)) pc off r
  | .if_acmp .ne off, 3, .ref y :: .ref x :: r => mm_br (decide (¬ x = y)) pc off r
  | .tableswitch dflt lo hi offs, _, .int x :: r =>
    if x.toInt < lo ∨ hi < x.toInt then (mm_tgt pc dflt).map (fun t => (t, r)) else (match offs[(x.toInt - lo).toNat]? with | some off => (mm_tgt pc off).map (fun t => (t, r)) | none => none)
  | _, _, _ => none
