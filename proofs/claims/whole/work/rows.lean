section
/-! THE MINI MACHINE, pure part: known locals as a list, the operand stack as a list; one function a kind of instruction; each is sound for the machine (W) by the kit's rows. -/
abbrev mm_L : Type := List (Nat × Value)
def mm_get : mm_L → Nat → Option Value
  | [], _ => none
  | (j, v) :: r, i => cond (Nat.beq j i) (some v) (mm_get r i)
def mm_del1 (i : Nat) : mm_L → mm_L
  | [] => []
  | (j, w) :: r => cond (Nat.beq j i || (Nat.beq (j + 1) i && Nat.beq w.category 2)) (mm_del1 i r) ((j, w) :: mm_del1 i r)
def mm_del2 (i : Nat) : mm_L → mm_L
  | [] => []
  | (j, w) :: r => cond (Nat.beq j i || (Nat.beq j (i + 1) || (Nat.beq (j + 1) i && Nat.beq w.category 2))) (mm_del2 i r) ((j, w) :: mm_del2 i r)
theorem mm_beq (a b : Nat) : Nat.beq a b = (a == b) := by
  cases h : Nat.beq a b with
  | true =>
    have e := Nat.eq_of_beq_eq_true h
    subst e
    simp
  | false =>
    have e := Nat.ne_of_beq_eq_false h
    simp [e]
theorem mm_get_mem : ∀ (lv : mm_L) (i : Nat) (v : Value), mm_get lv i = some v → (i, v) ∈ lv
  | [], i, v, h => by cases h
  | (j, w) :: r, i, v, h => by
    unfold mm_get at h
    cases hb : Nat.beq j i with
    | true =>
      rw [hb] at h
      have e : j = i := Nat.eq_of_beq_eq_true hb
      subst e
      cases h
      exact List.mem_cons_self
    | false =>
      rw [hb] at h
      exact List.mem_cons_of_mem _ (mm_get_mem r i v h)
theorem mm_del1_eq (i : Nat) : ∀ lv : mm_L, lv.filter (fun q => !(q.1 == i) && !(q.1 + 1 == i && q.2.category == 2)) = mm_del1 i lv
  | [] => rfl
  | (j, w) :: r => by
    unfold mm_del1
    rw [List.filter_cons, mm_del1_eq i r]
    simp only [mm_beq]
    cases h1 : (j == i) <;> cases h2 : (j + 1 == i && w.category == 2) <;> rfl
theorem mm_del2_eq (i : Nat) : ∀ lv : mm_L, lv.filter (fun q => !(q.1 == i) && (!(q.1 == i + 1) && !(q.1 + 1 == i && q.2.category == 2))) = mm_del2 i lv
  | [] => rfl
  | (j, w) :: r => by
    unfold mm_del2
    rw [List.filter_cons, mm_del2_eq i r]
    simp only [mm_beq]
    cases h1 : (j == i) <;> cases h3 : (j == i + 1) <;> cases h2 : (j + 1 == i && w.category == 2) <;> rfl
def mm_isInt : Value → Option Value
  | .int x => some (.int x)
  | _ => none
def mm_isLong : Value → Option Value
  | .long x => some (.long x)
  | _ => none
def mm_isRef : Value → Option Value
  | .ref x => some (.ref x)
  | _ => none
/-- what a constant or a load pushes -/
def mm_load (lv : mm_L) (i : Instr) (len : Nat) : Option Value :=
  match i, len with
  | .iconst n, 1 => some (.int (Int32.ofInt n))
  | .bipush n, 2 => some (.int (Int8.ofInt n).toInt32)
  | .sipush n, 3 => some (.int (Int16.ofInt n).toInt32)
  | .lconst n, 1 => some (.long (Int64.ofNat (n : Nat)))
  | .iload_n k, 1 => (mm_get lv k).bind mm_isInt
  | .iload k, 2 => (mm_get lv k).bind mm_isInt
  | .lload_n k, 1 => (mm_get lv k).bind mm_isLong
  | .lload k, 2 => (mm_get lv k).bind mm_isLong
  | .aload_n k, 1 => (mm_get lv k).bind mm_isRef
  | .aload k, 2 => (mm_get lv k).bind mm_isRef
  | _, _ => none
/-- stores: the new locals, the stack below -/
def mm_store (nl : Nat) (lv : mm_L) (i : Instr) (len : Nat) (st : List Value) : Option (mm_L × List Value) :=
  match i, len, st with
  | .istore_n k, 1, .int x :: r => cond (Nat.ble ((k : Nat) + 1) nl) (some (((k : Nat), .int x) :: mm_del1 k lv, r)) none
  | .istore k, 2, .int x :: r => cond (Nat.ble (k + 1) nl) (some ((k, .int x) :: mm_del1 k lv, r)) none
  | .lstore_n k, 1, .long x :: r => cond (Nat.ble ((k : Nat) + 2) nl) (some (((k : Nat), .long x) :: mm_del2 k lv, r)) none
  | .lstore k, 2, .long x :: r => cond (Nat.ble (k + 2) nl) (some ((k, .long x) :: mm_del2 k lv, r)) none
  | .astore_n k, 1, .ref x :: r => cond (Nat.ble ((k : Nat) + 1) nl) (some (((k : Nat), .ref x) :: mm_del1 k lv, r)) none
  | .astore k, 2, .ref x :: r => cond (Nat.ble (k + 1) nl) (some ((k, .ref x) :: mm_del1 k lv, r)) none
  | .iinc k n, 3, r => match mm_get lv k with
    | some (.int x) => cond (Nat.ble (k + 1) nl) (some ((k, .int (x + Int32.ofInt n)) :: mm_del1 k lv, r)) none
    | _ => none
  | _, _, _ => none
/-- arithmetic and the operand stack -/
def mm_arith (i : Instr) (len : Nat) (st : List Value) : Option (List Value) :=
  match i, len, st with
  | .iadd, 1, .int y :: .int x :: r => some (.int (x + y) :: r)
  | .isub, 1, .int y :: .int x :: r => some (.int (x - y) :: r)
  | .imul, 1, .int y :: .int x :: r => some (.int (x * y) :: r)
  | .iand, 1, .int y :: .int x :: r => some (.int (x &&& y) :: r)
  | .idiv, 1, .int y :: .int x :: r => if y = 0 then none else some (.int (x / y) :: r)
  | .ladd, 1, .long y :: .long x :: r => some (.long (x + y) :: r)
  | .lsub, 1, .long y :: .long x :: r => some (.long (x - y) :: r)
  | .lmul, 1, .long y :: .long x :: r => some (.long (x * y) :: r)
  | .land, 1, .long y :: .long x :: r => some (.long (x &&& y) :: r)
  | .lor, 1, .long y :: .long x :: r => some (.long (x ||| y) :: r)
  | .ldiv, 1, .long y :: .long x :: r => if y = 0 then none else some (.long (x / y) :: r)
  | .lrem, 1, .long y :: .long x :: r => if y = 0 then none else some (.long (x - x / y * y) :: r)
  | .lcmp, 1, .long y :: .long x :: r => some (.int (lg_cmp x y) :: r)
  | .i2l, 1, .int x :: r => some (.long x.toInt64 :: r)
  | .l2i, 1, .long x :: r => some (.int x.toInt32 :: r)
  | .lshl, 1, .int y :: .long x :: r => some (.long (x <<< (y.toInt64 &&& 63)) :: r)
  | _, _, _ => none
def mm_stack (i : Instr) (len : Nat) (st : List Value) : Option (List Value) :=
  match i, len, st with
  | .dup, 1, a :: r => cond (Nat.beq a.category 1) (some (a :: a :: r)) none
  | .pop, 1, a :: r => cond (Nat.beq a.category 1) (some r) none
  | .dup_x1, 1, a :: b :: r => cond (Nat.beq a.category 1 && Nat.beq b.category 1) (some (a :: b :: a :: r)) none
  | .dup_x2, 1, a :: b :: d :: r => cond (Nat.beq a.category 1 && (Nat.beq b.category 1 && Nat.beq d.category 1)) (some (a :: b :: d :: a :: r)) none
  | .pop2, 1, a :: r => cond (Nat.beq a.category 2) (some r) none
  | .dup2_x1, 1, a :: b :: r => cond (Nat.beq a.category 2 && Nat.beq b.category 1) (some (a :: b :: a :: r)) none
  | .dup2_x2, 1, a :: b :: d :: r => cond (Nat.beq a.category 2 && (Nat.beq b.category 1 && Nat.beq d.category 1)) (some (a :: b :: d :: a :: r)) none
  | .dup2, 1, .int a :: b :: r => cond (Nat.beq b.category 1) (some (.int a :: b :: .int a :: b :: r)) none
  | .dup2, 1, .ref a :: b :: r => cond (Nat.beq b.category 1) (some (.ref a :: b :: .ref a :: b :: r)) none
  | .dup2, 1, .long a :: r => some (.long a :: .long a :: r)
  | _, _, _ => none
def mm_tgt (pc : Nat) (off : Int) : Option Nat := match (pc : Int) + off with
  | .ofNat t => some t
  | .negSucc _ => none
theorem mm_tgt_ok {pc t : Nat} {off : Int} (h : mm_tgt pc off = some t) : (pc : Int) + off = (t : Int) := by
  unfold mm_tgt at h
  split at h
  · rename_i t' e
    cases h
    rw [e]
    rfl
  · cases h
def mm_br (b : Bool) (pc : Nat) (off : Int) (r : List Value) : Option (Nat × List Value) := (mm_tgt pc off).map (fun t => (cond b t (pc + 3), r))
/-- branches: the next pc, the stack below -/
def mm_jump (pc : Nat) (i : Instr) (len : Nat) (st : List Value) : Option (Nat × List Value) :=
  match i, len, st with
  | .goto off, 3, r => (mm_tgt pc off).map (fun t => (t, r))
  | .ifCond .eq off, 3, .int x :: r => mm_br (decide (x = 0)) pc off r
  | .ifCond .ne off, 3, .int x :: r => mm_br (decide (¬ x = 0)) pc off r
  | .ifCond .lt off, 3, .int x :: r => mm_br (decide (x < 0)) pc off r
  | .ifCond .ge off, 3, .int x :: r => mm_br (decide (0 ≤ x)) pc off r
  | .ifCond .gt off, 3, .int x :: r => mm_br (decide (0 < x)) pc off r
  | .ifCond .le off, 3, .int x :: r => mm_br (decide (x ≤ 0)) pc off r
  | .if_icmp .eq off, 3, .int y :: .int x :: r => mm_br (decide (x = y)) pc off r
  | .if_icmp .ne off, 3, .int y :: .int x :: r => mm_br (decide (¬ x = y)) pc off r
  | .if_icmp .lt off, 3, .int y :: .int x :: r => mm_br (decide (x < y)) pc off r
  | .if_icmp .ge off, 3, .int y :: .int x :: r => mm_br (decide (y ≤ x)) pc off r
  | .if_icmp .gt off, 3, .int y :: .int x :: r => mm_br (decide (y < x)) pc off r
  | .if_icmp .le off, 3, .int y :: .int x :: r => mm_br (decide (x ≤ y)) pc off r
  | .if_acmp .eq off, 3, .ref y :: .ref x :: r => mm_br (decide (x = y)) pc off r
  | .if_acmp .ne off, 3, .ref y :: .ref x :: r => mm_br (decide (¬ x = y)) pc off r
  | .tableswitch dflt lo hi offs, _, .int x :: r =>
    if x.toInt < lo ∨ hi < x.toInt then (mm_tgt pc dflt).map (fun t => (t, r)) else (match offs[(x.toInt - lo).toNat]? with | some off => (mm_tgt pc off).map (fun t => (t, r)) | none => none)
  | _, _, _ => none
end
section
theorem mm_cond {α : Type} {b : Bool} {x y : α} (h : cond b (some x) none = some y) : b = true ∧ x = y := by
  cases b with
  | true => exact ⟨rfl, Option.some.inj h⟩
  | false => cases h
theorem mm_getI {lv : mm_L} {k : Nat} {v : Value} (h : (mm_get lv k).bind mm_isInt = some v) : ∃ x, v = .int x ∧ (k, Value.int x) ∈ lv := by
  cases hg : mm_get lv k with
  | none => rw [hg] at h; cases h
  | some w =>
    rw [hg] at h
    cases w with
    | int x => cases h; exact ⟨x, rfl, mm_get_mem _ _ _ hg⟩
    | _ => cases h
theorem mm_getL {lv : mm_L} {k : Nat} {v : Value} (h : (mm_get lv k).bind mm_isLong = some v) : ∃ x, v = .long x ∧ (k, Value.long x) ∈ lv := by
  cases hg : mm_get lv k with
  | none => rw [hg] at h; cases h
  | some w =>
    rw [hg] at h
    cases w with
    | long x => cases h; exact ⟨x, rfl, mm_get_mem _ _ _ hg⟩
    | _ => cases h
theorem mm_getR {lv : mm_L} {k : Nat} {v : Value} (h : (mm_get lv k).bind mm_isRef = some v) : ∃ x, v = .ref x ∧ (k, Value.ref x) ∈ lv := by
  cases hg : mm_get lv k with
  | none => rw [hg] at h; cases h
  | some w =>
    rw [hg] at h
    cases w with
    | ref x => cases h; exact ⟨x, rfl, mm_get_mem _ _ _ hg⟩
    | _ => cases h
theorem mm_br_ok {b : Bool} {pc pc' : Nat} {off : Int} {r st' : List Value} (h : mm_br b pc off r = some (pc', st')) : ∃ t, mm_tgt pc off = some t ∧ cond b t (pc + 3) = pc' ∧ r = st' := by
  unfold mm_br at h
  cases ht : mm_tgt pc off with
  | none => rw [ht] at h; cases h
  | some t => rw [ht] at h; cases h; exact ⟨t, rfl, rfl, rfl⟩
theorem mm_go_ok {pc pc' : Nat} {off : Int} {r st' : List Value} (h : (mm_tgt pc off).map (fun t => (t, r)) = some (pc', st')) : mm_tgt pc off = some pc' ∧ r = st' := by
  cases ht : mm_tgt pc off with
  | none => rw [ht] at h; cases h
  | some t => rw [ht] at h; cases h; exact ⟨rfl, rfl⟩
theorem mm_cat {n k : Nat} (h : Nat.beq n k = true) : n = k := Nat.eq_of_beq_eq_true h
section MMP
variable {p : Program} {l : Launch} {e : Env} {R : Room} {s : State} {m : MethodId} {args : Array Value} {below : List Frame} {meth : Method} {c : Code} {H : Heap} {locs : List Loc} {cells slots : Nat} {Q : State → Prop}
variable {cc : ByteArray} {pc len : Nat} {ls : Array Slot} {st st' : List Value} {i : Instr} {lv lv' : mm_L} {nl : Nat} {v : Value}
set_option maxHeartbeats 4000000 in
theorem mm_load_W (hx : p.tables.exec = Jvm.exec) (hb : c.code = cc) (hl : lv_has ls nl lv) (hd : decode cc pc = .ok (i, len)) (h : mm_load lv i len = some v)
    (k : W p l e R s m args below meth c H locs cells slots Q (F0 m (pc + len) ls (v :: st))) : W p l e R s m args below meth c H locs cells slots Q (F0 m pc ls st) := by
  unfold mm_load at h
  split at h
  · cases h; exact lv_iconst hx hb hd rfl k
  · cases h; exact lv_bipush hx hb hd rfl k
  · cases h; exact lv_sipush hx hb hd rfl k
  · cases h; exact lv_lconst hx hb hd rfl k
  · obtain ⟨x, rfl, hm⟩ := mm_getI h; exact lv_iload_n hx hb hd rfl (hl.2.2 _ hm) k
  · obtain ⟨x, rfl, hm⟩ := mm_getI h; exact lv_iload hx hb hd (hl.2.2 _ hm) k
  · obtain ⟨x, rfl, hm⟩ := mm_getL h; exact lv_lload_n hx hb hd rfl (hl.2.2 _ hm) k
  · obtain ⟨x, rfl, hm⟩ := mm_getL h; exact lv_lload hx hb hd (hl.2.2 _ hm) k
  · obtain ⟨x, rfl, hm⟩ := mm_getR h; exact lv_aload_n hx hb hd rfl (hl.2.2 _ hm) k
  · obtain ⟨x, rfl, hm⟩ := mm_getR h; exact lv_aload hx hb hd (hl.2.2 _ hm) k
  · cases h
set_option maxHeartbeats 4000000 in
theorem mm_store_W (hx : p.tables.exec = Jvm.exec) (hb : c.code = cc) (hl : lv_has ls nl lv) (hd : decode cc pc = .ok (i, len)) (h : mm_store nl lv i len st = some (lv', st'))
    (k : ∀ ls' : Array Slot, lv_has ls' nl lv' → W p l e R s m args below meth c H locs cells slots Q (F0 m (pc + len) ls' st')) : W p l e R s m args below meth c H locs cells slots Q (F0 m pc ls st) := by
  unfold mm_store at h
  split at h
  · obtain ⟨h1, h2⟩ := mm_cond h; cases h2; exact lv_istore_n hx hb hd rfl hl (Nat.le_of_ble_eq_true h1) (by rw [mm_del1_eq]) k
  · obtain ⟨h1, h2⟩ := mm_cond h; cases h2; exact lv_istore hx hb hd hl (Nat.le_of_ble_eq_true h1) (by rw [mm_del1_eq]) k
  · obtain ⟨h1, h2⟩ := mm_cond h; cases h2; exact lv_lstore_n hx hb hd rfl hl (Nat.le_of_ble_eq_true h1) (by rw [mm_del2_eq]) k
  · obtain ⟨h1, h2⟩ := mm_cond h; cases h2; exact lv_lstore hx hb hd hl (Nat.le_of_ble_eq_true h1) (by rw [mm_del2_eq]) k
  · obtain ⟨h1, h2⟩ := mm_cond h; cases h2; exact lv_astore_n hx hb hd rfl hl (Nat.le_of_ble_eq_true h1) (by rw [mm_del1_eq]) k
  · obtain ⟨h1, h2⟩ := mm_cond h; cases h2; exact lv_astore hx hb hd hl (Nat.le_of_ble_eq_true h1) (by rw [mm_del1_eq]) k
  · split at h
    · rename_i hg
      obtain ⟨h1, h2⟩ := mm_cond h
      cases h2
      obtain ⟨q, hq⟩ := List.getElem?_of_mem (mm_get_mem _ _ _ hg)
      exact lv_iinc hx hb hd hl hq rfl (Nat.le_of_ble_eq_true h1) (by rw [mm_del1_eq]) k
    · cases h
  · cases h
set_option maxHeartbeats 4000000 in
theorem mm_arith_W (hx : p.tables.exec = Jvm.exec) (hb : c.code = cc) (hd : decode cc pc = .ok (i, len)) (h : mm_arith i len st = some st')
    (k : W p l e R s m args below meth c H locs cells slots Q (F0 m (pc + len) ls st')) : W p l e R s m args below meth c H locs cells slots Q (F0 m pc ls st) := by
  unfold mm_arith at h
  split at h
  · cases h; exact lv_iadd hx hb hd k
  · cases h; exact lv_isub hx hb hd k
  · cases h; exact lv_imul hx hb hd k
  · cases h; exact lv_iand hx hb hd k
  · split at h
    · cases h
    · rename_i hne; cases h; exact lv_idiv hx hb hd hne k
  · cases h; exact lv_ladd hx hb hd k
  · cases h; exact lv_lsub hx hb hd k
  · cases h; exact lv_lmul hx hb hd k
  · cases h; exact lv_land hx hb hd k
  · cases h; exact lv_lor hx hb hd k
  · split at h
    · cases h
    · rename_i hne; cases h; exact lv_ldiv hx hb hd hne k
  · split at h
    · cases h
    · rename_i hne; cases h; exact lv_lrem hx hb hd hne k
  · cases h; exact W.lcmp hx hb hd k
  · cases h; exact lv_i2l hx hb hd rfl k
  · cases h; exact lv_l2i hx hb hd rfl k
  · cases h; exact lv_lshl hx hb hd rfl k
  · cases h
set_option maxHeartbeats 4000000 in
theorem mm_stack_W (hx : p.tables.exec = Jvm.exec) (hb : c.code = cc) (hd : decode cc pc = .ok (i, len)) (h : mm_stack i len st = some st')
    (k : W p l e R s m args below meth c H locs cells slots Q (F0 m (pc + len) ls st')) : W p l e R s m args below meth c H locs cells slots Q (F0 m pc ls st) := by
  unfold mm_stack at h
  split at h
  · obtain ⟨h1, h2⟩ := mm_cond h; cases h2; exact lv_dup hx hb hd (mm_cat h1) k
  · obtain ⟨h1, h2⟩ := mm_cond h; cases h2; exact lv_pop hx hb hd (mm_cat h1) k
  · obtain ⟨h1, h2⟩ := mm_cond h; cases h2; rw [Bool.and_eq_true] at h1; exact lv_dup_x1 hx hb hd (mm_cat h1.1) (mm_cat h1.2) k
  · obtain ⟨h1, h2⟩ := mm_cond h; cases h2; rw [Bool.and_eq_true, Bool.and_eq_true] at h1; exact lv_dup_x2 hx hb hd (mm_cat h1.1) (mm_cat h1.2.1) (mm_cat h1.2.2) k
  · obtain ⟨h1, h2⟩ := mm_cond h; cases h2; exact lv_pop2_2 hx hb hd (mm_cat h1) k
  · obtain ⟨h1, h2⟩ := mm_cond h; cases h2; rw [Bool.and_eq_true] at h1; exact lv_dup2_x1_2 hx hb hd (mm_cat h1.1) (mm_cat h1.2) k
  · obtain ⟨h1, h2⟩ := mm_cond h; cases h2; rw [Bool.and_eq_true, Bool.and_eq_true] at h1; exact lv_dup2_x2_2 hx hb hd (mm_cat h1.1) (mm_cat h1.2.1) (mm_cat h1.2.2) k
  · obtain ⟨h1, h2⟩ := mm_cond h; cases h2; exact lv_dup2_11 hx hb hd rfl (mm_cat h1) k
  · obtain ⟨h1, h2⟩ := mm_cond h; cases h2; exact lv_dup2_11 hx hb hd rfl (mm_cat h1) k
  · cases h; exact lv_dup2_2 hx hb hd rfl k
  · cases h
set_option maxHeartbeats 8000000 in
theorem mm_jump_W {pc' : Nat} (hx : p.tables.exec = Jvm.exec) (hb : c.code = cc) (hd : decode cc pc = .ok (i, len)) (h : mm_jump pc i len st = some (pc', st'))
    (k : W p l e R s m args below meth c H locs cells slots Q (F0 m pc' ls st')) : W p l e R s m args below meth c H locs cells slots Q (F0 m pc ls st) := by
  unfold mm_jump at h
  split at h
  · obtain ⟨h1, rfl⟩ := mm_go_ok h; exact lv_goto hx hb hd (mm_tgt_ok h1) k
  · obtain ⟨t, ht, rfl, rfl⟩ := mm_br_ok h; exact lv_if_eq hx hb hd (mm_tgt_ok ht) (fun q => by rw [decide_eq_true q] at k; exact k) (fun q => by rw [decide_eq_false q] at k; exact k)
  · obtain ⟨t, ht, rfl, rfl⟩ := mm_br_ok h; exact lv_if_ne hx hb hd (mm_tgt_ok ht) (fun q => by rw [decide_eq_true q] at k; exact k) (fun q => by rw [decide_eq_false (fun z => z q)] at k; exact k)
  · obtain ⟨t, ht, rfl, rfl⟩ := mm_br_ok h; exact lv_if_lt hx hb hd (mm_tgt_ok ht) (fun q => by rw [decide_eq_true q] at k; exact k) (fun q => by rw [decide_eq_false q] at k; exact k)
  · obtain ⟨t, ht, rfl, rfl⟩ := mm_br_ok h; exact lv_if_ge hx hb hd (mm_tgt_ok ht) (fun q => by rw [decide_eq_true q] at k; exact k) (fun q => by rw [decide_eq_false q] at k; exact k)
  · obtain ⟨t, ht, rfl, rfl⟩ := mm_br_ok h; exact lv_if_gt hx hb hd (mm_tgt_ok ht) (fun q => by rw [decide_eq_true q] at k; exact k) (fun q => by rw [decide_eq_false q] at k; exact k)
  · obtain ⟨t, ht, rfl, rfl⟩ := mm_br_ok h; exact lv_if_le hx hb hd (mm_tgt_ok ht) (fun q => by rw [decide_eq_true q] at k; exact k) (fun q => by rw [decide_eq_false q] at k; exact k)
  · obtain ⟨t, ht, rfl, rfl⟩ := mm_br_ok h; exact lv_icmp_eq hx hb hd (mm_tgt_ok ht) (fun q => by rw [decide_eq_true q] at k; exact k) (fun q => by rw [decide_eq_false q] at k; exact k)
  · obtain ⟨t, ht, rfl, rfl⟩ := mm_br_ok h; exact lv_icmp_ne hx hb hd (mm_tgt_ok ht) (fun q => by rw [decide_eq_true q] at k; exact k) (fun q => by rw [decide_eq_false (fun z => z q)] at k; exact k)
  · obtain ⟨t, ht, rfl, rfl⟩ := mm_br_ok h; exact lv_icmp_lt hx hb hd (mm_tgt_ok ht) (fun q => by rw [decide_eq_true q] at k; exact k) (fun q => by rw [decide_eq_false q] at k; exact k)
  · obtain ⟨t, ht, rfl, rfl⟩ := mm_br_ok h; exact lv_icmp_ge hx hb hd (mm_tgt_ok ht) (fun q => by rw [decide_eq_true q] at k; exact k) (fun q => by rw [decide_eq_false q] at k; exact k)
  · obtain ⟨t, ht, rfl, rfl⟩ := mm_br_ok h; exact lv_icmp_gt hx hb hd (mm_tgt_ok ht) (fun q => by rw [decide_eq_true q] at k; exact k) (fun q => by rw [decide_eq_false q] at k; exact k)
  · obtain ⟨t, ht, rfl, rfl⟩ := mm_br_ok h; exact lv_icmp_le hx hb hd (mm_tgt_ok ht) (fun q => by rw [decide_eq_true q] at k; exact k) (fun q => by rw [decide_eq_false q] at k; exact k)
  · rename_i y x r
    obtain ⟨t, ht, rfl, rfl⟩ := mm_br_ok h; exact lv_acmp_eq (rx := some x) (ry := some y) hx hb hd (mm_tgt_ok ht) (fun q => by rw [decide_eq_true (Option.some.inj q)] at k; exact k) (fun q => by rw [decide_eq_false (fun z => q (by rw [z]))] at k; exact k)
  · rename_i y x r
    obtain ⟨t, ht, rfl, rfl⟩ := mm_br_ok h; exact lv_acmp_ne (rx := some x) (ry := some y) hx hb hd (mm_tgt_ok ht) (fun q => by rw [decide_eq_true (show ¬ x = y from fun z => q (by rw [z]))] at k; exact k) (fun q => by rw [decide_eq_false (show ¬ ¬ x = y from fun z => z (Option.some.inj q))] at k; exact k)
  · split at h
    · rename_i hc
      obtain ⟨h1, rfl⟩ := mm_go_ok h
      exact lv_tableOut hx hb hd hc (mm_tgt_ok h1) k
    · rename_i hc
      split at h
      · rename_i ho
        obtain ⟨h1, rfl⟩ := mm_go_ok h
        exact lv_tableIn hx hb hd (fun q => hc (Or.inl q)) (fun q => hc (Or.inr q)) ho (mm_tgt_ok h1) k
      · cases h
  · cases h
end MMP
end
section
/-! THE MINI MACHINE's heap: a partial function from addresses to cells (object: number of its class, fields; array: number of its kind, length, contents), and how it lies in the machine's heap. -/
abbrev mm_C : Type := (Nat × List Value) ⊕ (Nat × Nat × (Nat → Value))
/-- its size; how many cells and slots may still be made; the cells -/
abbrev mm_H : Type := Nat × (Nat × Nat) × (Nat → Option mm_C)
def mm_ty : Nat → FieldType
  | 0 => .int
  | 1 => .long
  | 2 => .boolean
  | 3 => .object "TrusteeDesk$Claim"
  | 4 => .object "TrusteeDesk$Asset"
  | _ => .int
def mm_scr (c : mm_C) : Bool := match c with
  | .inl _ => false
  | .inr q => Nat.beq q.1 5
def mm_upd (h : mm_H) (a : Nat) (c : mm_C) : mm_H := (h.1, h.2.1, fun q => cond (Nat.beq q a) (some c) (h.2.2 q))
def mm_push (h : mm_H) (n : Nat) (c : mm_C) : mm_H := (h.1 + 1, (h.2.1.1 - 1, h.2.1.2 - n), fun q => cond (Nat.beq q h.1) (some c) (h.2.2 q))
def mm_at (D : va_G) (aC : Nat → ClassId) (cl : List vw_C) (a : Nat) (c : mm_C) (H : Heap) : Prop := match c with
  | .inl o => ∃ r : vw_C, cl[o.1]? = some r ∧ t_OB a (D.1 o.1) r.2.2 (D.2 o.1) H (vp_V o.2)
  | .inr q => ∃ cell : Cell, H[a]? = some cell ∧ cell.cls = aC q.1 ∧ cell.vm ≠ .unknown ∧ (∀ k, cell.vm ≠ .statics k) ∧ cell.slots.size = q.2.1 ∧ ∀ j : Nat, j < q.2.1 → cell.slots[j]? = some (q.2.2 j)
def mm_emb (D : va_G) (aC : Nat → ClassId) (cl : List vw_C) (H0 : Heap) (h : mm_H) (H : Heap) : Prop :=
  H.size = h.1 ∧ (∀ (a : Nat) (c : mm_C), h.2.2 a = some c → mm_at D aC cl a c H ∧ (mm_scr c = false → H0.size ≤ a)) ∧ (∀ q : Nat, H0.size ≤ q → ∀ cell : Cell, H[q]? = some cell → cell.vm.isStatics = false) ∧ H0.size ≤ h.1 ∧ ∀ q : Nat, q < H0.size → H[q]? = H0[q]?
/-- what the tables say of the classes and of the array classes -/
def mm_Kn (D : va_G) (aC : Nat → ClassId) (cl : List vw_C) (U : State) : Prop :=
  (∀ (c : Nat) (q : vw_C), cl[c]? = some q → u_Kn U q.1 q.2.1 q.2.2 (D.1 c) (D.2 c)) ∧ (∀ t : Nat, t < 6 → ∃ (k : Class) (comp : ClassId), U.vm.classes[aC t]? = some k ∧ k.kind = .array comp (mm_ty t)) ∧ ∀ t : Nat, t < 5 → va_RA U (aC t) (mm_ty t)
theorem mm_Kn.moved {D : va_G} {aC : Nat → ClassId} {cl : List vw_C} {u U : State} (hvm : u.vm.Alike U.vm) (h : mm_Kn D aC cl u) : mm_Kn D aC cl U := by
  refine ⟨fun c q hq => u_Kn_moved hvm (h.1 c q hq), fun t ht => ?_, fun t ht => (h.2.2 t ht).moved hvm⟩
  obtain ⟨k, comp, h1, h2⟩ := h.2.1 t ht
  obtain ⟨k', hk', he⟩ := hvm.2.2 _ _ h1
  exact ⟨k', comp, hk', by rw [he]; exact h2⟩
theorem mm_beq_ne {a b : Nat} (h : a ≠ b) : Nat.beq a b = false := by
  cases hb : Nat.beq a b with
  | false => rfl
  | true => exact absurd (Nat.eq_of_beq_eq_true hb) h
theorem mm_beq_self (a : Nat) : Nat.beq a a = true := Nat.beq_refl a
theorem mm_upd_self (h : mm_H) (a : Nat) (c : mm_C) : (mm_upd h a c).2.2 a = some c := by
  show cond (Nat.beq a a) (some c) (h.2.2 a) = some c
  rw [mm_beq_self]; rfl
theorem mm_upd_ne (h : mm_H) {a q : Nat} (c : mm_C) (hq : q ≠ a) : (mm_upd h a c).2.2 q = h.2.2 q := by
  show cond (Nat.beq q a) (some c) (h.2.2 q) = h.2.2 q
  rw [mm_beq_ne hq]; rfl
theorem mm_push_self (h : mm_H) (n : Nat) (c : mm_C) : (mm_push h n c).2.2 h.1 = some c := by
  show cond (Nat.beq h.1 h.1) (some c) (h.2.2 h.1) = some c
  rw [mm_beq_self]; rfl
theorem mm_push_ne (h : mm_H) (n : Nat) {q : Nat} (c : mm_C) (hq : q ≠ h.1) : (mm_push h n c).2.2 q = h.2.2 q := by
  show cond (Nat.beq q h.1) (some c) (h.2.2 q) = h.2.2 q
  rw [mm_beq_ne hq]; rfl
section MMH
variable {D : va_G} {aC : Nat → ClassId} {cl : List vw_C} {H0 : Heap} {h : mm_H} {H H1 : Heap} {a : Nat} {c0 : mm_C}
theorem mm_at.kept (ha : mm_at D aC cl a c0 H) (hq : H1[a]? = H[a]?) : mm_at D aC cl a c0 H1 := by
  cases c0 with
  | inl o =>
    obtain ⟨r, h1, h2⟩ := ha
    exact ⟨r, h1, h2.kept hq⟩
  | inr q =>
    obtain ⟨cell, h1, h2⟩ := ha
    exact ⟨cell, by rw [hq]; exact h1, h2⟩
theorem mm_at.lt (ha : mm_at D aC cl a c0 H) : a < H.size := by
  cases c0 with
  | inl o =>
    obtain ⟨r, h1, cell, h2, -⟩ := ha
    exact (Array.getElem?_eq_some_iff.mp h2).1
  | inr q =>
    obtain ⟨cell, h1, h2⟩ := ha
    exact (Array.getElem?_eq_some_iff.mp h1).1
theorem mm_emb.lt (hE : mm_emb D aC cl H0 h H) (ha : h.2.2 a = some c0) : a < h.1 := by
  rw [← hE.1]
  exact (hE.2.1 a c0 ha).1.lt
theorem mm_emb.upd (hE : mm_emb D aC cl H0 h H) (hs : H1.size = H.size) (ho : ∀ q : Nat, q ≠ a → H1[q]? = H[q]?) (hat : mm_at D aC cl a c0 H1) (hB : H0.size ≤ a)
    (hst : ∀ cell : Cell, H1[a]? = some cell → cell.vm.isStatics = false) : mm_emb D aC cl H0 (mm_upd h a c0) H1 := by
  refine ⟨by rw [hs]; exact hE.1, fun q c hq => ?_, fun q hq cell hc => ?_, hE.2.2.2.1, fun q hq => ?_⟩
  · by_cases e : q = a
    · subst e
      rw [mm_upd_self] at hq
      cases hq
      exact ⟨hat, fun _ => hB⟩
    · rw [mm_upd_ne _ _ e] at hq
      obtain ⟨g1, g2⟩ := hE.2.1 q c hq
      exact ⟨g1.kept (ho q e), g2⟩
  · by_cases e : q = a
    · subst e
      exact hst cell hc
    · rw [ho q e] at hc
      exact hE.2.2.1 q hq cell hc
  · rw [ho q (by omega)]
    exact hE.2.2.2.2 q hq
theorem mm_emb.push {n : Nat} (hE : mm_emb D aC cl H0 h H) (hs : H1.size = h.1 + 1) (ho : ∀ q : Nat, q < h.1 → H1[q]? = H[q]?) (hat : mm_at D aC cl h.1 c0 H1)
    (hst : ∀ cell : Cell, H1[h.1]? = some cell → cell.vm.isStatics = false) : mm_emb D aC cl H0 (mm_push h n c0) H1 := by
  have hB := hE.2.2.2.1
  refine ⟨hs, fun q c hq => ?_, fun q hq cell hc => ?_, Nat.le_succ_of_le hB, fun q hq => by rw [ho q (by omega)]; exact hE.2.2.2.2 q hq⟩
  · by_cases e : q = h.1
    · subst e
      rw [mm_push_self] at hq
      cases hq
      exact ⟨hat, fun _ => hB⟩
    · rw [mm_push_ne _ _ _ e] at hq
      obtain ⟨g1, g2⟩ := hE.2.1 q c hq
      exact ⟨g1.kept (ho q (hE.lt hq)), g2⟩
  · have hlt : q < h.1 + 1 := by rw [← hs]; exact (Array.getElem?_eq_some_iff.mp hc).1
    by_cases e : q = h.1
    · subst e
      exact hst cell hc
    · rw [ho q (by omega)] at hc
      exact hE.2.2.1 q hq cell hc
end MMH
/-- an index in range -/
def mm_idx (j : Int32) (n : Nat) : Option Nat := if j < 0 ∨ n ≤ j.toNatClampNeg then none else some j.toNatClampNeg
theorem mm_idx_ok {j : Int32} {n q : Nat} (h : mm_idx j n = some q) : ¬ (j < 0 ∨ n ≤ j.toNatClampNeg) ∧ j.toNatClampNeg = q := by
  unfold mm_idx at h
  split at h
  · cases h
  · rename_i hc; cases h; exact ⟨hc, rfl⟩
theorem mm_idx_nI {i n : Nat} (h : i < n) (hn : n < 2 ^ 31) : mm_idx (nI i) n = some i := by
  unfold mm_idx
  rw [if_neg (nI_in h hn), nI_clamp (by omega)]
def mm_fit (ty : FieldType) (v : Value) : Bool := match ty, v with
  | .int, .int _ => true
  | .long, .long _ => true
  | .boolean, .int x => x == 0 || x == 1
  | .object _, .ref _ => true
  | .array _, .ref _ => true
  | _, _ => false
theorem mm_bool1 {x : Int32} (h : (x == 0 || x == 1) = true) : x &&& 1 = x := by
  simp only [Bool.or_eq_true, beq_iff_eq] at h
  rcases h with rfl | rfl <;> decide
theorem mm_fit_ok {ty : FieldType} {v : Value} (h : mm_fit ty v = true) : narrow ty v = v ∧ fits ty v = true := by
  unfold mm_fit at h
  split at h
  · exact ⟨rfl, rfl⟩
  · exact ⟨rfl, rfl⟩
  · refine ⟨?_, h⟩
    show Value.int (_ &&& 1) = _
    rw [mm_bool1 h]
  · exact ⟨rfl, rfl⟩
  · exact ⟨rfl, rfl⟩
  · cases h
end
section
theorem mm_cond2 {α : Type} {b : Bool} {x : Option α} {y : α} (h : cond b x none = some y) : b = true ∧ x = some y := by
  cases b with
  | true => exact ⟨rfl, h⟩
  | false => cases h
section MMM
variable {p : Program} {l : Launch} {e : Env} {R : Room} {s : State} {m : MethodId} {args : Array Value} {below : List Frame} {meth : Method} {c : Code} {H : Heap} {locs : List Loc} {cells slots : Nat} {Q : State → Prop}
variable {cc : ByteArray} {pc : Nat} {ls : Array Slot} {rest : List Value} {D : va_G} {aC : Nat → ClassId} {cl : List vw_C} {H0 : Heap} {h : mm_H} {a : Nat} {Ts : List Cond}
theorem mm_getf_W (hx : p.tables.exec = Jvm.exec) (hb : c.code = cc) (hts : ∀ w ∈ Ts, w.before args s = true) {own : String} (hown : s.vm.findClass own = some m.cls) (hK : mm_Kn D aC cl s) (hE : mm_emb D aC cl H0 h H)
    {C : String} {T : u_T} {N ci k idx : Nat} (hc : cl[ci]? = some (C, T, N)) (hin : ∀ w ∈ u_ws C T N, w ∈ Ts) (hk : k < N) (hlink : Cond.fieldLink own idx (T k).1 (T k).2.1 (T k).2.2.1 ∈ Ts)
    {fs : List Value} {v : Value} (ha : h.2.2 a = some (.inl (ci, fs))) (hv : fs[k]? = some v) (hd : decode cc pc = .ok (.getfield idx, 3))
    (kk : W p l e R s m args below meth c H locs cells slots Q (F0 m (pc + 3) ls (v :: rest))) : W p l e R s m args below meth c H locs cells slots Q (F0 m pc ls (.ref a :: rest)) := by
  obtain ⟨⟨r, h1, cell, q1, q2, q3, q4⟩, -⟩ := hE.2.1 a _ ha
  have hr : r = (C, T, N) := Option.some.inj (h1.symm.trans hc)
  subst hr
  obtain ⟨hS, hfc, kC, hkC, hkind⟩ := hK.1 ci _ hc
  obtain ⟨cf, kf, fi, f, hi, hsl⟩ := hS k hk
  refine W.getf hx hb hown (hts _ hlink) hi (u_facts hfc hkC (u_lays hts hin hk) hi).1 q1 (by rw [q3]; exact fun h => by cases h) (v := v) ?_ rfl rfl hd kk
  rw [hsl, q4 k hk]
  simp [vp_V, hv]
theorem mm_apart (hts : ∀ w ∈ Ts, w.before args s = true) {C : String} {T : u_T} {N ci : Nat} (hin : ∀ w ∈ u_ws C T N, w ∈ Ts) (ty : Nat → FieldType) (hty : ∀ k, k < N → parseFieldDescriptor (T k).2.2.1 = some (ty k))
    (hnm : ∀ a, a < N → ∀ b, b < N → a ≠ b → (T a).2.1 ≠ (T b).2.1) (hK : mm_Kn D aC cl s) (hc : cl[ci]? = some (C, T, N)) : ∀ x y, x < N → y < N → x ≠ y → (D.2 ci) x ≠ (D.2 ci) y := by
  intro x y hx hy hne
  obtain ⟨hS, -⟩ := hK.1 ci _ hc
  obtain ⟨_, _, _, fa, hia, ea⟩ := hS x hx
  obtain ⟨_, _, _, fb, hib, eb⟩ := hS y hy
  rw [← ea, ← eb]
  refine u_apart (u_lays hts hin hx) (u_lays hts hin hy) hia hib ?_
  rw [(State.fieldFound?_type hia (hty x hx)).1, (State.fieldFound?_type hib (hty y hy)).1]
  exact hnm x hx y hy hne
/-- putfield: not final, or final in its class's own constructor -/
theorem mm_putf_W (hx : p.tables.exec = Jvm.exec) (hb : c.code = cc) (hts : ∀ w ∈ Ts, w.before args s = true) {own : String} (hown : s.vm.findClass own = some m.cls) (hK : mm_Kn D aC cl s) (hE : mm_emb D aC cl H0 h H)
    {C : String} {T : u_T} {N ci k idx : Nat} (hc : cl[ci]? = some (C, T, N)) (hin : ∀ w ∈ u_ws C T N, w ∈ Ts) (ty : Nat → FieldType) (hty : ∀ k, k < N → parseFieldDescriptor (T k).2.2.1 = some (ty k))
    (hnm : ∀ a, a < N → ∀ b, b < N → a ≠ b → (T a).2.1 ≠ (T b).2.1) (hk : k < N) (hlink : Cond.fieldLink own idx (T k).1 (T k).2.1 (T k).2.2.1 ∈ Ts) (hfin : (T k).2.2.2 = true → meth.name = "<init>" ∧ (T k).1 = own)
    {fs : List Value} {v : Value} (ha : h.2.2 a = some (.inl (ci, fs))) (hl : k < fs.length) (hf : mm_fit (ty k) v = true) (hd : decode cc pc = .ok (.putfield idx, 3))
    (kk : ∀ (H1 : Heap) (L : List Loc), mm_emb D aC cl H0 (mm_upd h a (.inl (ci, fs.set k v))) H1 → (∀ q ∈ L, H0.size ≤ q.base) → W p l e R s m args below meth c H1 (locs ++ L) cells slots Q (F0 m (pc + 3) ls rest)) :
    W p l e R s m args below meth c H locs cells slots Q (F0 m pc ls (v :: .ref a :: rest)) := by
  have hap := mm_apart hts hin ty hty hnm hK hc
  obtain ⟨⟨r, h1, cell, q1, q2, q3, q4⟩, hB⟩ := hE.2.1 a _ ha
  have hr : r = (C, T, N) := Option.some.inj (h1.symm.trans hc)
  subst hr
  obtain ⟨hS, hfc, kC, hkC, hkind⟩ := hK.1 ci _ hc
  obtain ⟨cf, kf, fi, f, hi, hsl⟩ := hS k hk
  have hst := (u_facts hfc hkC (u_lays hts hin hk) hi).1
  obtain ⟨hn, hfit⟩ := mm_fit_ok hf
  have key : ∀ H' : Heap, H'[a]? = some (cell.setSlot f.slot v) → H'.size = H.size → (∀ q : Nat, q ≠ a → H'[q]? = H[q]?) → mm_emb D aC cl H0 (mm_upd h a (.inl (ci, fs.set k v))) H' := by
    intro H' e1 e2 e3
    rw [hsl] at e1
    refine hE.upd e2 e3 ⟨_, hc, t_OB.to (V := updV (vp_V fs) k v) ⟨_, e1, q2, q3, t_set q4 hap hk v⟩ (fun j _ => vp_updV_set hl v j)⟩ (hB rfl) (fun cell' hc' => ?_)
    rw [e1] at hc'
    cases hc'
    show cell.vm.isStatics = false
    rw [q3]
    rfl
  cases hfl : (T k).2.2.2 with
  | false =>
    have hlay := hts _ (hin _ (u_in_lay hk))
    unfold u_lay at hlay
    rw [if_neg (by rw [hfl]; decide)] at hlay
    have h6 := u_store hfc hkC hkind hlay hi (hty k hk) hn hfit
    refine W.putK hx hb (f := f) ⟨hown, hts _ hlink, ⟨_, _, _, hi⟩, hst⟩ (by rw [q2]; exact h6) q1 q3 (by rw [hsl]; exact k2_hasslot (q4 k hk)) rfl rfl hd fun H' e1 e2 e3 => ?_
    exact kk H' _ (key H' e1 e2 e3) (fun q hq => by rw [List.mem_singleton.mp hq]; exact hB rfl)
  | true =>
    obtain ⟨hin2, hdecl⟩ := hfin hfl
    have hlay := hts _ (hin _ (u_in_lay hk))
    unfold u_lay at hlay
    rw [if_pos hfl] at hlay
    have hcf : m.cls = cf := by
      obtain ⟨_, _, c', _, _, _, -, -, hf', -, -, -, hown2, -⟩ := Cond.laysFinal_spec hlay
      have e1 : c' = cf := by have := hi.symm.trans hf'; simp at this; exact this.1.symm
      rw [hdecl] at hown2
      rw [← e1]; exact Option.some.inj (hown.symm.trans hown2)
    have h6 := u_fits hfc hkC hkind (Or.inr hlay) hi (hty k hk) hn hfit
    refine W.putFinK hx hb hown (hts _ hlink) hi hst hcf hin2 (by rw [q2]; exact h6) q1 q3 (by rw [hsl]; exact k2_hasslot (q4 k hk)) rfl rfl hd fun H' e1 e2 e3 => ?_
    exact kk H' _ (key H' e1 e2 e3) (fun q hq => by rw [List.mem_singleton.mp hq]; exact hB rfl)
theorem mm_arrOf (hK : mm_Kn D aC cl s) {t n : Nat} {f : Nat → Value} (ht : t < 6) {cell : Cell} (h2 : cell.cls = aC t) (h4 : ∀ k, cell.vm ≠ .statics k) : s.isArrayOf cell (mm_ty t) := by
  obtain ⟨k, comp, g1, g2⟩ := hK.2.1 t ht
  exact ⟨h4, k, by rw [h2]; exact g1, comp, g2⟩
/-- array loads and the length -/
def mm_rd (h : mm_H) (i : Instr) (len : Nat) (st : List Value) : Option (List Value) :=
  match i, len, st with
  | .iaload, 1, .int j :: .ref a :: r => match h.2.2 a with
    | some (.inr (0, n, f)) => (mm_idx j n).map (fun q => f q :: r)
    | some (.inr (5, n, f)) => (mm_idx j n).map (fun q => f q :: r)
    | _ => none
  | .laload, 1, .int j :: .ref a :: r => match h.2.2 a with
    | some (.inr (1, n, f)) => (mm_idx j n).map (fun q => f q :: r)
    | _ => none
  | .baload, 1, .int j :: .ref a :: r => match h.2.2 a with
    | some (.inr (2, n, f)) => (mm_idx j n).map (fun q => f q :: r)
    | _ => none
  | .aaload, 1, .int j :: .ref a :: r => match h.2.2 a with
    | some (.inr (3, n, f)) => (mm_idx j n).map (fun q => f q :: r)
    | some (.inr (4, n, f)) => (mm_idx j n).map (fun q => f q :: r)
    | _ => none
  | .arraylength, 1, .ref a :: r => match h.2.2 a with
    | some (.inr (0, n, _)) => some (.int (Int32.ofNat n) :: r)
    | some (.inr (1, n, _)) => some (.int (Int32.ofNat n) :: r)
    | some (.inr (5, n, _)) => some (.int (Int32.ofNat n) :: r)
    | _ => none
  | _, _, _ => none
theorem mm_rd_ok {n : Nat} {f : Nat → Value} {j : Int32} {r st' : List Value} (h : (mm_idx j n).map (fun q => f q :: r) = some st') : ∃ q, mm_idx j n = some q ∧ f q :: r = st' := by
  cases hi : mm_idx j n with
  | none => rw [hi] at h; cases h
  | some q => rw [hi] at h; exact ⟨q, rfl, Option.some.inj h⟩
set_option maxHeartbeats 4000000 in
theorem mm_rd_W {i : Instr} {len : Nat} {st st' : List Value} (hx : p.tables.exec = Jvm.exec) (hb : c.code = cc) (hK : mm_Kn D aC cl s) (hE : mm_emb D aC cl H0 h H) (hd : decode cc pc = .ok (i, len)) (hr : mm_rd h i len st = some st')
    (kk : W p l e R s m args below meth c H locs cells slots Q (F0 m (pc + len) ls st')) : W p l e R s m args below meth c H locs cells slots Q (F0 m pc ls st) := by
  unfold mm_rd at hr
  split at hr
  · split at hr
    · rename_i n f ha
      obtain ⟨q, hq, rfl⟩ := mm_rd_ok hr
      obtain ⟨g1, rfl⟩ := mm_idx_ok hq
      obtain ⟨⟨cell, c1, c2, c3, c4, c5, c6⟩, -⟩ := hE.2.1 _ _ ha
      exact W.iald hx hb c1 (mm_arrOf (n := n) (f := f) hK (t := 0) (by omega) c2 c4) c3 (by rw [c5]; exact g1) (c6 _ (Nat.not_le.mp fun z => g1 (Or.inr z))) rfl rfl hd kk
    · rename_i n f ha
      obtain ⟨q, hq, rfl⟩ := mm_rd_ok hr
      obtain ⟨g1, rfl⟩ := mm_idx_ok hq
      obtain ⟨⟨cell, c1, c2, c3, c4, c5, c6⟩, -⟩ := hE.2.1 _ _ ha
      exact W.iald hx hb c1 (mm_arrOf (n := n) (f := f) hK (t := 5) (by omega) c2 c4) c3 (by rw [c5]; exact g1) (c6 _ (Nat.not_le.mp fun z => g1 (Or.inr z))) rfl rfl hd kk
    · cases hr
  · split at hr
    · rename_i n f ha
      obtain ⟨q, hq, rfl⟩ := mm_rd_ok hr
      obtain ⟨g1, rfl⟩ := mm_idx_ok hq
      obtain ⟨⟨cell, c1, c2, c3, c4, c5, c6⟩, -⟩ := hE.2.1 _ _ ha
      exact W.lald hx hb c1 (mm_arrOf (n := n) (f := f) hK (t := 1) (by omega) c2 c4) c3 (by rw [c5]; exact g1) (c6 _ (Nat.not_le.mp fun z => g1 (Or.inr z))) rfl rfl hd kk
    · cases hr
  · split at hr
    · rename_i n f ha
      obtain ⟨q, hq, rfl⟩ := mm_rd_ok hr
      obtain ⟨g1, rfl⟩ := mm_idx_ok hq
      obtain ⟨⟨cell, c1, c2, c3, c4, c5, c6⟩, -⟩ := hE.2.1 _ _ ha
      exact W.zald hx hb c1 (mm_arrOf (n := n) (f := f) hK (t := 2) (by omega) c2 c4) c3 (by rw [c5]; exact g1) (c6 _ (Nat.not_le.mp fun z => g1 (Or.inr z))) rfl rfl hd kk
    · cases hr
  · split at hr
    · rename_i n f ha
      obtain ⟨q, hq, rfl⟩ := mm_rd_ok hr
      obtain ⟨g1, rfl⟩ := mm_idx_ok hq
      obtain ⟨⟨cell, c1, c2, c3, c4, c5, c6⟩, -⟩ := hE.2.1 _ _ ha
      exact W.aald hx hb c1 (mm_arrOf (n := n) (f := f) hK (t := 3) (by omega) c2 c4) rfl c3 (by rw [c5]; exact g1) (c6 _ (Nat.not_le.mp fun z => g1 (Or.inr z))) rfl rfl hd kk
    · rename_i n f ha
      obtain ⟨q, hq, rfl⟩ := mm_rd_ok hr
      obtain ⟨g1, rfl⟩ := mm_idx_ok hq
      obtain ⟨⟨cell, c1, c2, c3, c4, c5, c6⟩, -⟩ := hE.2.1 _ _ ha
      exact W.aald hx hb c1 (mm_arrOf (n := n) (f := f) hK (t := 4) (by omega) c2 c4) rfl c3 (by rw [c5]; exact g1) (c6 _ (Nat.not_le.mp fun z => g1 (Or.inr z))) rfl rfl hd kk
    · cases hr
  · split at hr
    · rename_i n f ha
      cases hr
      obtain ⟨⟨cell, c1, c2, c3, c4, c5, c6⟩, -⟩ := hE.2.1 _ _ ha
      exact W.alen hx hb c1 (mm_arrOf (n := n) (f := f) hK (t := 0) (by omega) c2 c4) (by rw [c5]) rfl rfl hd kk
    · rename_i n f ha
      cases hr
      obtain ⟨⟨cell, c1, c2, c3, c4, c5, c6⟩, -⟩ := hE.2.1 _ _ ha
      exact W.alen hx hb c1 (mm_arrOf (n := n) (f := f) hK (t := 1) (by omega) c2 c4) (by rw [c5]) rfl rfl hd kk
    · rename_i n f ha
      cases hr
      obtain ⟨⟨cell, c1, c2, c3, c4, c5, c6⟩, -⟩ := hE.2.1 _ _ ha
      exact W.alen hx hb c1 (mm_arrOf (n := n) (f := f) hK (t := 5) (by omega) c2 c4) (by rw [c5]) rfl rfl hd kk
    · cases hr
  · cases hr
/-- the class whose objects an array of references holds -/
def mm_elt : Nat → Option Nat
  | 3 => some 1
  | 4 => some 2
  | _ => none
/-- array stores -/
def mm_wr (h : mm_H) (i : Instr) (len : Nat) (st : List Value) : Option (List Value × mm_H) :=
  match i, len, st with
  | .iastore, 1, .int x :: .int j :: .ref a :: r => match h.2.2 a with
    | some (.inr (0, n, f)) => (mm_idx j n).map (fun q => (r, mm_upd h a (.inr (0, n, updV f q (.int x)))))
    | _ => none
  | .lastore, 1, .long x :: .int j :: .ref a :: r => match h.2.2 a with
    | some (.inr (1, n, f)) => (mm_idx j n).map (fun q => (r, mm_upd h a (.inr (1, n, updV f q (.long x)))))
    | _ => none
  | .bastore, 1, .int x :: .int j :: .ref a :: r => match h.2.2 a with
    | some (.inr (2, n, f)) => cond (x == 0 || x == 1) ((mm_idx j n).map (fun q => (r, mm_upd h a (.inr (2, n, updV f q (.int x)))))) none
    | _ => none
  | .aastore, 1, .ref v :: .int j :: .ref a :: r => match h.2.2 a, h.2.2 v with
    | some (.inr (3, n, f)), some (.inl (1, _)) => (mm_idx j n).map (fun q => (r, mm_upd h a (.inr (3, n, updV f q (.ref v)))))
    | some (.inr (4, n, f)), some (.inl (2, _)) => (mm_idx j n).map (fun q => (r, mm_upd h a (.inr (4, n, updV f q (.ref v)))))
    | _, _ => none
  | _, _, _ => none
theorem mm_wr_ok {α : Type} {n : Nat} {g : Nat → α} {j : Int32} {z : α} (h : (mm_idx j n).map g = some z) : ∃ q, mm_idx j n = some q ∧ g q = z := by
  cases hi : mm_idx j n with
  | none => rw [hi] at h; cases h
  | some q => rw [hi] at h; exact ⟨q, rfl, Option.some.inj h⟩
theorem mm_wr_bud {h h' : mm_H} {i : Instr} {len : Nat} {st st' : List Value} (hr : mm_wr h i len st = some (st', h')) : h'.2.1 = h.2.1 := by
  unfold mm_wr at hr
  split at hr
  · split at hr
    · obtain ⟨q, hq, hz⟩ := mm_wr_ok hr
      cases hz
      rfl
    · cases hr
  · split at hr
    · obtain ⟨q, hq, hz⟩ := mm_wr_ok hr
      cases hz
      rfl
    · cases hr
  · split at hr
    · obtain ⟨h1, h2⟩ := mm_cond2 hr
      obtain ⟨q, hq, hz⟩ := mm_wr_ok h2
      cases hz
      rfl
    · cases hr
  · split at hr
    · obtain ⟨q, hq, hz⟩ := mm_wr_ok hr
      cases hz
      rfl
    · obtain ⟨q, hq, hz⟩ := mm_wr_ok hr
      cases hz
      rfl
    · cases hr
  · cases hr
theorem mm_set_at {H' : Heap} {t n q : Nat} {f : Nat → Value} {v : Value} {cell : Cell} (hE : mm_emb D aC cl H0 h H) (hB : H0.size ≤ a) (c2 : cell.cls = aC t) (c3 : cell.vm ≠ .unknown) (c4 : ∀ k, cell.vm ≠ .statics k) (c5 : cell.slots.size = n) (c6 : ∀ j : Nat, j < n → cell.slots[j]? = some (f j)) (hq : q < n)
    (e1 : H'[a]? = some (cell.setSlot q v)) (e2 : H'.size = H.size) (e3 : ∀ q : Nat, q ≠ a → H'[q]? = H[q]?) : mm_emb D aC cl H0 (mm_upd h a (.inr (t, n, updV f q v))) H' := by
  refine hE.upd e2 e3 ⟨_, e1, c2, c3, c4, by rw [k2_slotsz]; exact c5, fun j hj => ?_⟩ hB (fun cell' hc' => ?_)
  · show (cell.setSlot q v).slots[j]? = some (updV f q v j)
    by_cases hjq : j = q
    · subst hjq
      rw [Cell.slots_setSlot_self _ (by rw [c5]; exact hq)]
      simp [updV]
    · rw [slot_ne cell v (Ne.symm hjq), c6 j hj]
      simp [updV, hjq]
  · rw [e1] at hc'
    cases hc'
    show cell.vm.isStatics = false
    cases hv : cell.vm with
    | statics k => exact absurd hv (c4 k)
    | _ => rfl
set_option maxHeartbeats 4000000 in
theorem mm_wr_W {i : Instr} {len : Nat} {st st' : List Value} {h' : mm_H} (hx : p.tables.exec = Jvm.exec) (hb : c.code = cc) (hK : mm_Kn D aC cl s) (hE : mm_emb D aC cl H0 h H)
    {r1 r2 : vw_C} (hc1 : cl[1]? = some r1) (hc2 : cl[2]? = some r2) (hn1 : r1.1 = "TrusteeDesk$Claim") (hn2 : r2.1 = "TrusteeDesk$Asset")
    (hd : decode cc pc = .ok (i, len)) (hr : mm_wr h i len st = some (st', h'))
    (kk : ∀ (H1 : Heap) (L : List Loc), mm_emb D aC cl H0 h' H1 → (∀ q ∈ L, H0.size ≤ q.base) → W p l e R s m args below meth c H1 (locs ++ L) cells slots Q (F0 m (pc + len) ls st')) : W p l e R s m args below meth c H locs cells slots Q (F0 m pc ls st) := by
  unfold mm_wr at hr
  split at hr
  · split at hr
    · rename_i n f ha
      obtain ⟨q, hq, hz⟩ := mm_wr_ok hr
      cases hz
      obtain ⟨g1, rfl⟩ := mm_idx_ok hq
      obtain ⟨⟨cell, c1, c2, c3, c4, c5, c6⟩, hB⟩ := hE.2.1 _ _ ha
      have hlt := Nat.not_le.mp fun z => g1 (Or.inr z)
      refine W.iast hx hb c1 (mm_arrOf (n := n) (f := f) hK (t := 0) (by omega) c2 c4) c3 (by rw [c5]; exact g1) rfl rfl hd fun H' e1 e2 e3 => ?_
      exact kk H' _ (mm_set_at hE (hB rfl) c2 c3 c4 c5 c6 hlt e1 e2 e3) (fun q hq => by rw [List.mem_singleton.mp hq]; exact hB rfl)
    · cases hr
  · split at hr
    · rename_i n f ha
      obtain ⟨q, hq, hz⟩ := mm_wr_ok hr
      cases hz
      obtain ⟨g1, rfl⟩ := mm_idx_ok hq
      obtain ⟨⟨cell, c1, c2, c3, c4, c5, c6⟩, hB⟩ := hE.2.1 _ _ ha
      have hlt := Nat.not_le.mp fun z => g1 (Or.inr z)
      refine W.last hx hb c1 (mm_arrOf (n := n) (f := f) hK (t := 1) (by omega) c2 c4) c3 (by rw [c5]; exact g1) rfl rfl hd fun H' e1 e2 e3 => ?_
      exact kk H' _ (mm_set_at hE (hB rfl) c2 c3 c4 c5 c6 hlt e1 e2 e3) (fun q hq => by rw [List.mem_singleton.mp hq]; exact hB rfl)
    · cases hr
  · split at hr
    · rename_i n f ha
      obtain ⟨hcx, hr⟩ := mm_cond2 hr
      obtain ⟨q, hq, hz⟩ := mm_wr_ok hr
      cases hz
      obtain ⟨g1, rfl⟩ := mm_idx_ok hq
      obtain ⟨⟨cell, c1, c2, c3, c4, c5, c6⟩, hB⟩ := hE.2.1 _ _ ha
      have hlt := Nat.not_le.mp fun z => g1 (Or.inr z)
      refine W.zast hx hb c1 (mm_arrOf (n := n) (f := f) hK (t := 2) (by omega) c2 c4) c3 (by rw [c5]; exact g1) rfl rfl hd fun H' e1 e2 e3 => ?_
      rw [(mm_fit_ok (ty := .boolean) (v := .int _) hcx).1] at e1
      exact kk H' _ (mm_set_at hE (hB rfl) c2 c3 c4 c5 c6 hlt e1 e2 e3) (fun q hq => by rw [List.mem_singleton.mp hq]; exact hB rfl)
    · cases hr
  · split at hr
    · rename_i n f _ ha hv
      obtain ⟨q, hq, hz⟩ := mm_wr_ok hr
      cases hz
      obtain ⟨g1, rfl⟩ := mm_idx_ok hq
      obtain ⟨⟨cell, c1, c2, c3, c4, c5, c6⟩, hB⟩ := hE.2.1 _ _ ha
      obtain ⟨⟨rv, hrv, cellV, v1, v2, v3, -⟩, -⟩ := hE.2.1 _ _ hv
      have hlt := Nat.not_le.mp fun z => g1 (Or.inr z)
      have hcls := (hK.1 1 _ hc1).2
      rw [hn1] at hcls
      obtain ⟨kA, comp, k1, k2, k3, -⟩ := hK.2.2 3 (by omega)
      have hce : comp = D.1 1 := Option.some.inj (k3.symm.trans hcls.1)
      subst hce
      obtain ⟨-, kE, hkE, -⟩ := id hcls
      refine W.aast (k := kA) (kv := kE) (kcomp := kE) (comp := D.1 1) (t := .object "TrusteeDesk$Claim") hx hb c1 c4 c3 (by rw [c2]; exact k1) k2 rfl hkE ⟨fun z => g1 (Or.inl z), by rw [c5]; exact hlt⟩ v1 (fun z hz => by rw [v3] at hz; cases hz) (by rw [v2]; exact hkE) (by rw [v2]; exact va_assign hcls) rfl rfl hd fun H' e1 e2 e3 => ?_
      exact kk H' _ (mm_set_at hE (hB rfl) c2 c3 c4 c5 c6 hlt e1 e2 e3) (fun q hq => by rw [List.mem_singleton.mp hq]; exact hB rfl)
    · rename_i n f _ ha hv
      obtain ⟨q, hq, hz⟩ := mm_wr_ok hr
      cases hz
      obtain ⟨g1, rfl⟩ := mm_idx_ok hq
      obtain ⟨⟨cell, c1, c2, c3, c4, c5, c6⟩, hB⟩ := hE.2.1 _ _ ha
      obtain ⟨⟨rv, hrv, cellV, v1, v2, v3, -⟩, -⟩ := hE.2.1 _ _ hv
      have hlt := Nat.not_le.mp fun z => g1 (Or.inr z)
      have hcls := (hK.1 2 _ hc2).2
      rw [hn2] at hcls
      obtain ⟨kA, comp, k1, k2, k3, -⟩ := hK.2.2 4 (by omega)
      have hce : comp = D.1 2 := Option.some.inj (k3.symm.trans hcls.1)
      subst hce
      obtain ⟨-, kE, hkE, -⟩ := id hcls
      refine W.aast (k := kA) (kv := kE) (kcomp := kE) (comp := D.1 2) (t := .object "TrusteeDesk$Asset") hx hb c1 c4 c3 (by rw [c2]; exact k1) k2 rfl hkE ⟨fun z => g1 (Or.inl z), by rw [c5]; exact hlt⟩ v1 (fun z hz => by rw [v3] at hz; cases hz) (by rw [v2]; exact hkE) (by rw [v2]; exact va_assign hcls) rfl rfl hd fun H' e1 e2 e3 => ?_
      exact kk H' _ (mm_set_at hE (hB rfl) c2 c3 c4 c5 c6 hlt e1 e2 e3) (fun q hq => by rw [List.mem_singleton.mp hq]; exact hB rfl)
    · cases hr
  · cases hr
end MMM
end
section
section MMN
variable {p : Program} {l : Launch} {e : Env} {R : Room} {s : State} {m : MethodId} {args : Array Value} {below : List Frame} {meth : Method} {c : Code} {H : Heap} {locs : List Loc} {cells slots : Nat} {Q : State → Prop}
variable {cc : ByteArray} {pc : Nat} {ls : Array Slot} {rest : List Value} {D : va_G} {aC : Nat → ClassId} {cl : List vw_C} {H0 : Heap} {h : mm_H} {Ts : List Cond}
theorem mm_new_W (hx : p.tables.exec = Jvm.exec) (hb : c.code = cc) (hts : ∀ w ∈ Ts, w.before args s = true) {own : String} (hown : s.vm.findClass own = some m.cls) (hK : mm_Kn D aC cl s) (hE : mm_emb D aC cl H0 h H)
    {C : String} {T : u_T} {N ci idx : Nat} (hc : cl[ci]? = some (C, T, N)) (hin : ∀ w ∈ u_ws C T N, w ∈ Ts) (ty : Nat → FieldType) (hty : ∀ k, k < N → parseFieldDescriptor (T k).2.2.1 = some (ty k)) {fs : List Value} (hfs : ∀ j, j < N → defaultValue (ty j) = vp_V fs j)
    (hl : Cond.classLink own idx C ∈ Ts) (hi : Cond.instantiable C N ∈ Ts) (hn : Cond.initialized C ∈ Ts) (hcells : cells + 1 ≤ R.cells) (hslots : slots + N ≤ R.slots) (hd : decode cc pc = .ok (.new idx, 3))
    (kk : ∀ H1 : Heap, mm_emb D aC cl H0 (mm_push h N (.inl (ci, fs))) H1 → W p l e R s m args below meth c H1 locs (cells + 1) (slots + N) Q (F0 m (pc + 3) ls (.ref h.1 :: rest))) :
    W p l e R s m args below meth c H locs cells slots Q (F0 m pc ls rest) := by
  have hKn := hK.1 ci _ hc
  refine W.newcK hx hb hown (hts _ hl) (hts _ hi) (hts _ hn) rfl hd hcells hslots hKn.2.1 hE.1 fun H1 kC hkC e1 z1 o1 => ?_
  refine kk H1 (hE.push z1 (fun q hq => o1 q hq) ⟨_, hc, (u_born ty hts hin hKn hkC e1 hty).to hfs⟩ (fun cell hcl => ?_))
  rw [e1] at hcl
  cases hcl
  rfl
theorem mm_newa_W (hx : p.tables.exec = Jvm.exec) (hb : c.code = cc) (hts : ∀ w ∈ Ts, w.before args s = true) (hK : mm_Kn D aC cl s) (hE : mm_emb D aC cl H0 h H)
    {atype : ArrayType} {t N : Nat} (ht : t < 3) (hty : newarray.typeOf atype = mm_ty t) (hw : Cond.arrayClass (mm_ty t) ∈ Ts) {n : Int32} (hn : ¬ n < 0) (hN : n.toNatClampNeg = N) (hbytes : N * 8 ≤ 536870912)
    (hcells : cells + 1 ≤ R.cells) (hslots : slots + N ≤ R.slots) (hd : decode cc pc = .ok (.newarray atype, 2))
    (kk : ∀ H1 : Heap, mm_emb D aC cl H0 (mm_push h N (.inr (t, N, fun _ => defaultValue (mm_ty t)))) H1 → W p l e R s m args below meth c H1 locs (cells + 1) (slots + N) Q (F0 m (pc + 2) ls (.ref h.1 :: rest))) :
    W p l e R s m args below meth c H locs cells slots Q (F0 m pc ls (.int n :: rest)) := by
  have hcb : N * componentBytes (newarray.typeOf atype) ≤ 536870912 := by
    rw [hty]
    have : componentBytes (mm_ty t) ≤ 8 := by
      rcases (show t = 0 ∨ t = 1 ∨ t = 2 by omega) with rfl | rfl | rfl <;> decide
    exact Nat.le_trans (Nat.mul_le_mul_left N this) hbytes
  refine va_newaK hx hb (by rw [hty]; exact hts _ hw) rfl hd rfl hn hN hcb hcells hslots hE.1 fun H1 cA e1 z1 o1 hAr hNm => ?_
  have hcA : cA = aC t := by
    have h1 := hK.2.2 t (by omega)
    rw [hty] at hNm
    rcases (show t = 0 ∨ t = 1 ∨ t = 2 by omega) with rfl | rfl | rfl <;> exact Option.some.inj (hNm.symm.trans h1)
  subst hcA
  rw [hty] at e1
  refine kk H1 (hE.push z1 (fun q hq => o1 q hq) ⟨_, e1, rfl, (fun hz => by cases hz), (fun k hz => by cases hz), arrV_size _ _ _, fun j hj => arrV_read _ _ hj⟩ (fun cell hcl => ?_))
  rw [e1] at hcl
  cases hcl
  rfl
theorem mm_anew_W (hx : p.tables.exec = Jvm.exec) (hb : c.code = cc) (hts : ∀ w ∈ Ts, w.before args s = true) {own : String} (hown : s.vm.findClass own = some m.cls) (hK : mm_Kn D aC cl s) (hE : mm_emb D aC cl H0 h H)
    {C : String} {t N idx : Nat} (ht : t < 5) (hty : mm_ty t = .object C) (hl : Cond.classLink own idx C ∈ Ts) (hw : Cond.arrayOver (.object C) ∈ Ts) {n : Int32} (hn : ¬ n < 0) (hN : n.toNatClampNeg = N) (hbytes : N * 4 ≤ 536870912)
    (hcells : cells + 1 ≤ R.cells) (hslots : slots + N ≤ R.slots) (hd : decode cc pc = .ok (.anewarray idx, 3))
    (kk : ∀ H1 : Heap, mm_emb D aC cl H0 (mm_push h N (.inr (t, N, fun _ => .null))) H1 → W p l e R s m args below meth c H1 locs (cells + 1) (slots + N) Q (F0 m (pc + 3) ls (.ref h.1 :: rest))) :
    W p l e R s m args below meth c H locs cells slots Q (F0 m pc ls (.int n :: rest)) := by
  subst hN
  refine W.anew hx hb hown (hts _ hl) (hts _ hw) rfl hd rfl hn hbytes hcells hslots fun cA kA comp h1 h2 h3 h4 => ?_
  have hcA : cA = aC t := by
    have h5 := hK.2.2 t ht
    rw [hty] at h5
    obtain ⟨_, _, -, -, -, h6⟩ := h5
    exact Option.some.inj (h1.symm.trans h6)
  subst hcA
  have e1 : (H.push ({ cls := aC t, slots := Array.replicate n.toNatClampNeg .null, vm := .none } : Cell))[h.1]? = some { cls := aC t, slots := Array.replicate n.toNatClampNeg .null, vm := .none } := by
    rw [← hE.1]; simp
  have h7 := kk _ (hE.push (n := n.toNatClampNeg) (c0 := .inr (t, n.toNatClampNeg, fun _ => .null)) (H1 := H.push ({ cls := aC t, slots := Array.replicate n.toNatClampNeg .null, vm := .none } : Cell)) (by rw [Array.size_push, hE.1]) (fun q hq => by rw [Array.getElem?_push, if_neg (by rw [hE.1]; omega)])
    ⟨_, e1, rfl, (fun hz => by cases hz), (fun k hz => by cases hz), by simp, fun j hj => by simp [hj]⟩ (fun cell hcl => by rw [e1] at hcl; cases hcl; rfl))
  rw [← hE.1] at h7
  exact h7
end MMN
end
section
/-! a call: the callee is walked inside, over the caller's frame; it returns or throws -/
abbrev mm_O : Type := (Option Value) ⊕ (Nat × Nat)
def mm_oc : mm_O → Outcome
  | .inl v => .returned v
  | .inr x => .threw x.2
def mm_thrown (r : mm_O × mm_H) : Prop := match r.1 with
  | .inl _ => True
  | .inr x => r.2.2.2 x.2 = some (.inl (x.1, []))
def mm_Res (D : va_G) (aC : Nat → ClassId) (cl : List vw_C) (H0 : Heap) (s : State) (below : List Frame) (z : Nat × Nat) (r : mm_O × mm_H) (t : State) : Prop :=
  t.status = .running ∧ Ended t below (mm_oc r.1) ∧ s.WarmedH t.vm ∧ (∃ L : List Loc, (∀ q ∈ L, H0.size ≤ q.base) ∧ s.sameButNew ({ t with vm := s.vm } : State) L (z.1 - r.2.2.1.1) (z.2 - r.2.2.1.2)) ∧ mm_emb D aC cl H0 r.2 t.heap ∧ mm_thrown r ∧ r.2.2.1.1 ≤ z.1 ∧ r.2.2.1.2 ≤ z.2
theorem mm_weaken {tb : Tables} {e : Env} {f : Frame} {below : List Frame} {a b : State} (h : Steps tb e (f :: below) a b) : Steps tb e below a b := by
  obtain ⟨n, hn, w⟩ := h
  exact ⟨n, hn, fun k hk => Within.weaken (mid := [f]) (w k hk)⟩
section MMCALL
variable {p : Program} {l : Launch} {e : Env} {R R' : Room} {s : State} {m : MethodId} {args : Array Value} {below : List Frame} {meth : Method} {c : Code} {T : State} {locs : List Loc} {cells slots : Nat}
variable {D : va_G} {aC : Nat → ClassId} {cl : List vw_C} {H0 : Heap} {h : mm_H} {g : JFrame} {ig : Instr} {len : Nat} {mk : MethodId} {methk : Method} {ck : Code} {a : Array Value}
theorem mm_callRet (X : Stand p l e R s m args below meth c T locs cells slots) (hg : g.method = m) (hsize : g.locals.size = c.maxLocals) (hdg : decode c.code g.pc = .ok (ig, len))
    (hmk : T.vm.method? mk = some methk) (hck : methk.code = some ck) (hlk : methk.locks = false) (hpk : T.plainMethod mk)
    (hframes : R'.frames + 1 ≤ R.frames) (hlocals : 2 * g.monitorRoom + (g.stack.map fun v => v.category).sum + (ck.maxLocals + 11) + R'.locals ≤ R.locals) (hcells : cells + R'.cells ≤ R.cells) (hslots : slots + R'.slots ≤ R.slots)
    {v : Option Value} {h' : mm_H}
    (hcal : W p l e R' (T.calling g mk a) mk a (.java g :: below) methk ck T.heap [] 0 0 (mm_Res D aC cl H0 (T.calling g mk a) (.java g :: below) h.2.1 (.inl v, h')) (entryFrame mk a ck.maxLocals)) :
    ∃ (T' : State) (L : List Loc), Stand p l e R s m args below meth c T' (locs ++ L) (cells + (h.2.1.1 - h'.2.1.1)) (slots + (h.2.1.2 - h'.2.1.2)) ∧ (∀ q ∈ L, H0.size ≤ q.base) ∧ mm_emb D aC cl H0 h' T'.heap ∧ (h'.2.1.1 ≤ h.2.1.1 ∧ h'.2.1.2 ≤ h.2.1.2) ∧
      ∀ target, Steps p.tables e below (T'.setTop { g with pc := g.pc + len, stack := v.toList ++ g.stack }) target → ∀ acts, Steps p.tables e below (doInvoke e (T.setTop g) acts mk a).1 target := by
  obtain ⟨Y, hdo⟩ := X.into hg hsize hdg a hmk hck hlk hpk hframes hlocals hcells hslots
  obtain ⟨t, st, hrun, hend, hW, ⟨L, hL, hsame⟩, hemb, -, hm1, hm2⟩ := hcal _ (by simp [State.pushFrame, State.setFrames, State.setTop, State.modifyTopJava]) Y
  obtain ⟨T', X', hW', hsm, ht⟩ := X.outOf hg hdg hend hW hsame
  have hh : t.heap = T'.heap := by rw [ht]; simp [State.setTop, State.modifyTopJava]
  refine ⟨T', L, X', hL, by rw [← hh]; exact hemb, ⟨hm1, hm2⟩, fun target htar acts => ?_⟩
  rw [hdo acts]
  exact (mm_weaken st).trans (by rw [ht]; exact htar)
theorem mm_callThrew (X : Stand p l e R s m args below meth c T locs cells slots) (hg : g.method = m) (hsize : g.locals.size = c.maxLocals) (hdg : decode c.code g.pc = .ok (ig, len))
    (hmk : T.vm.method? mk = some methk) (hck : methk.code = some ck) (hlk : methk.locks = false) (hpk : T.plainMethod mk)
    (hframes : R'.frames + 1 ≤ R.frames) (hlocals : 2 * g.monitorRoom + (g.stack.map fun v => v.category).sum + (ck.maxLocals + 11) + R'.locals ≤ R.locals) (hcells : cells + R'.cells ≤ R.cells) (hslots : slots + R'.slots ≤ R.slots)
    {x : Nat × Nat} {h' : mm_H}
    (hcal : W p l e R' (T.calling g mk a) mk a (.java g :: below) methk ck T.heap [] 0 0 (mm_Res D aC cl H0 (T.calling g mk a) (.java g :: below) h.2.1 (.inr x, h')) (entryFrame mk a ck.maxLocals)) :
    ∃ (T' : State) (L : List Loc), Stand p l e R s m args below meth c T' (locs ++ L) (cells + (h.2.1.1 - h'.2.1.1)) (slots + (h.2.1.2 - h'.2.1.2)) ∧ (∀ q ∈ L, H0.size ≤ q.base) ∧ mm_emb D aC cl H0 h' T'.heap ∧ (h'.2.1.1 ≤ h.2.1.1 ∧ h'.2.1.2 ≤ h.2.1.2) ∧ h'.2.2 x.2 = some (.inl (x.1, [])) ∧
      ∀ target, Steps p.tables e below ((T'.setTop g).pushFrame (.throwing x.2)) target → ∀ acts, Steps p.tables e below (doInvoke e (T.setTop g) acts mk a).1 target := by
  obtain ⟨Y, hdo⟩ := X.into hg hsize hdg a hmk hck hlk hpk hframes hlocals hcells hslots
  obtain ⟨t, st, hrun, hend, hW, ⟨L, hL, hsame⟩, hemb, hth, hm1, hm2⟩ := hcal _ (by simp [State.pushFrame, State.setFrames, State.setTop, State.modifyTopJava]) Y
  obtain ⟨T', X', hW', hsm, ht⟩ := X.outOfThrown hg hend hW hsame
  have hh : t.heap = T'.heap := by rw [ht]; exact Stand.throwing_heap T' g x.2
  refine ⟨T', L, X', hL, by rw [← hh]; exact hemb, ⟨hm1, hm2⟩, hth, fun target htar acts => ?_⟩
  rw [hdo acts]
  exact (mm_weaken st).trans (by rw [ht]; exact htar)
end MMCALL
/-- what the tables say of a method: where it is, its code, its handlers -/
def mm_Mt (y : MethodName) (bytes : ByteArray) (nl : Nat) (ret : Option FieldType) (hh : List (Nat × Nat × Nat × Nat)) (U : State) (mk : MethodId) (methk : Method) (ck : Code) : Prop :=
  U.methodNamed? y = some mk ∧ U.vm.method? mk = some methk ∧ methk.code = some ck ∧ ck.code = bytes ∧ ck.maxLocals = nl ∧ methk.sig.returnType = ret ∧ methk.locks = false ∧
    ck.exceptionTable.toList.map (fun h => (h.startPc, h.endPc, h.handlerPc, h.catchType)) = hh ∧ parseMethodDescriptor y.desc = some methk.sig
def mm_cw (y : MethodName) (bytes : ByteArray) (nl : Nat) (ret : Option FieldType) (hh : List (Nat × Nat × Nat × Nat)) : Cond := match hh with
  | [] => .code y bytes nl ret
  | x :: r => .codeWith y bytes nl ret (x :: r)
theorem mm_Mt.of {y : MethodName} {bytes : ByteArray} {nl : Nat} {ret : Option FieldType} {hh : List (Nat × Nat × Nat × Nat)} {U : State} {A : Array Value} (h : (mm_cw y bytes nl ret hh).before A U = true) : ∃ mk methk ck, mm_Mt y bytes nl ret hh U mk methk ck := by
  cases hh with
  | nil =>
    have h' : (Cond.code y bytes nl ret).before A U = true := h
    obtain ⟨mk, hn⟩ := Cond.code_named h'
    obtain ⟨methk, ck, h1, h2, h3, h4, h5, h6, h7, h8⟩ := Cond.code_spec hn h'
    refine ⟨mk, methk, ck, hn, h1, h2, h3, h4, h5, h6, ?_, h8⟩
    have : ck.exceptionTable.toList = [] := by simpa using h7
    rw [this]
    rfl
  | cons x r =>
    have h' : (Cond.codeWith y bytes nl ret (x :: r)).before A U = true := h
    obtain ⟨mk, methk, ck, hn, h1, h2, h3, h4, h5, h6, h7, h8⟩ := Cond.codeWith_spec h'
    exact ⟨mk, methk, ck, hn, h1, h2, h3, h4, h6, h7, h5, h8⟩
end
