/-! THE MINI MACHINE itself: a big-step interpreter with fuel and depth. It is a function; what it answers, the machine does (mm_sim). -/
/-- how many words a stack has -/
def mm_w : List Value → Nat
  | [] => 0
  | v :: r => v.category + mm_w r
theorem mm_w_eq : ∀ r : List Value, (r.map fun v => v.category).sum = mm_w r
  | [] => rfl
  | v :: r => by
    rw [List.map_cons, List.sum_cons, mm_w_eq r]
    rfl
theorem mm_sum12 {r : List Value} (h : Nat.ble (mm_w r) 12 = true) : (r.map fun v => v.category).sum ≤ 12 := by
  rw [mm_w_eq]
  exact Nat.le_of_ble_eq_true h
/-- fields, constants, the JDK's own small members, what is made -/
def mm_fa (k d : Nat) (i : Instr) (len : Nat) (st : List Value) (h : mm_H) : Option (List Value × mm_H) :=
  match i, len, st with
  | .getfield idx, 3, .ref a :: r => match t_fld (t_o k) idx, h.2.2 a with
    | some (ci, j), some (.inl (ci', fs)) => cond (Nat.beq ci' ci) ((fs[j]?).map (fun v => (v :: r, h))) none
    | _, _ => none
  | .putfield idx, 3, v :: .ref a :: r => match t_fld (t_o k) idx, h.2.2 a with
    | some (ci, j), some (.inl (ci', fs)) => cond (Nat.beq ci' ci && (mm_fit (t_ct ci j) v && (Nat.ble (j + 1) fs.length && (!(t_fin ci j) || t_ini k ci)))) (some (r, mm_upd h a (.inl (ci, fs.set j v)))) none
    | _, _ => none
  | .ldc idx, 2, r => match t_ci (t_o k) idx with
    | some x => some (.int x :: r, h)
    | none => none
  | .ldc2_w idx, 3, r => match t_cj (t_o k) idx with
    | some x => some (.long x :: r, h)
    | none => none
  | .invokespecial idx, 3, .ref _ :: r => cond (t_obi (t_o k) idx && (Nat.ble 1 d && Nat.ble (mm_w r) 12)) (some (r, h)) none
  | .invokestatic idx, 3, .long y :: .long x :: r => match t_mx (t_o k) idx with
    | some true => cond (Nat.ble 1 d && Nat.ble (mm_w r) 12) (some (.long (if y < x then x else y) :: r, h)) none
    | some false => cond (Nat.ble 1 d && Nat.ble (mm_w r) 12) (some (.long (if y < x then y else x) :: r, h)) none
    | none => none
  | .new idx, 3, r => match t_cls (t_o k) idx with
    | some ci => cond (Nat.ble 1 h.2.1.1 && Nat.ble (t_N ci) h.2.1.2) (some (.ref h.1 :: r, mm_push h (t_N ci) (.inl (ci, t_df ci)))) none
    | none => none
  | .newarray ty, 2, .int n :: r => match t_at ty with
    | some t => if n < 0 ∨ 60000000 < n.toNatClampNeg ∨ h.2.1.1 < 1 ∨ h.2.1.2 < n.toNatClampNeg then none else some (.ref h.1 :: r, mm_push h n.toNatClampNeg (.inr (t, n.toNatClampNeg, fun _ => defaultValue (mm_ty t))))
    | none => none
  | .anewarray idx, 3, .int n :: r => match t_ary (t_o k) idx with
    | some t => if n < 0 ∨ 60000000 < n.toNatClampNeg ∨ h.2.1.1 < 1 ∨ h.2.1.2 < n.toNatClampNeg then none else some (.ref h.1 :: r, mm_push h n.toNatClampNeg (.inr (t, n.toNatClampNeg, fun _ => .null)))
    | none => none
  | _, _, _ => none
/-- one instruction that stays in the method -/
def mm_step (k d : Nat) (i : Instr) (len pc : Nat) (lv : mm_L) (st : List Value) (h : mm_H) : Option (Nat × mm_L × List Value × mm_H) :=
  match mm_load lv i len with
  | some v => some (pc + len, lv, v :: st, h)
  | none => match mm_store (t_nl k) lv i len st with
    | some (lv', st') => some (pc + len, lv', st', h)
    | none => match mm_arith i len st with
      | some st' => some (pc + len, lv, st', h)
      | none => match mm_stack i len st with
        | some st' => some (pc + len, lv, st', h)
        | none => match mm_jump pc i len st with
          | some (pc', st') => some (pc', lv, st', h)
          | none => match mm_rd h i len st with
            | some st' => some (pc + len, lv, st', h)
            | none => match mm_wr h i len st with
              | some (st', h') => some (pc + len, lv, st', h')
              | none => match mm_fa k d i len st h with
                | some (st', h') => some (pc + len, lv, st', h')
                | none => none
/-- what a return instruction answers -/
def mm_ret (rt : Option FieldType) (i : Instr) (len : Nat) (st : List Value) : Option (Option Value) :=
  match rt, i, len, st with
  | some .int, .ireturn, 1, [.int x] => some (some (.int x))
  | some .boolean, .ireturn, 1, [.int x] => cond (x == 0 || x == 1) (some (some (.int x))) none
  | some .long, .lreturn, 1, [.long x] => some (some (.long x))
  | some (.object _), .areturn, 1, [.ref a] => some (some (.ref a))
  | none, .return_, 1, [] => some none
  | _, _, _, _ => none
/-- 'throw new X("..")': the class's number, the heap with the new object -/
def mm_thr (k d pc : Nat) (i : Instr) (len : Nat) (st : List Value) (h : mm_H) : Option (Nat × mm_H) :=
  match i, len with
  | .new idx, 3 => match t_exc (t_o k) idx, t_cod k (pc + 3), t_cod k (pc + 4), t_cod k (pc + 6), t_cod k (pc + 9) with
    | some x, some (.dup, 1), some (.ldc si, 2), some (.invokespecial ic, 3), some (.athrow, 1) =>
      cond (Nat.ble (mm_w st) 12 && (t_str (t_o k) si && (t_ctr (t_o k) ic x && (Nat.beq (t_hh k).length 0 && (Nat.ble 6 d && (Nat.ble 1 h.2.1.1 && Nat.ble 6 h.2.1.2)))))) (some (x, mm_push h 6 (.inl (x, [])))) none
    | _, _, _, _, _ => none
  | _, _ => none
def mm_split : Nat → List Value → Option (List Value × List Value)
  | 0, st => some ([], st)
  | _ + 1, [] => none
  | n + 1, v :: st => match mm_split n st with
    | some (as, r) => some (as ++ [v], r)
    | none => none
/-- a call: the callee, its arguments, the stack below -/
def mm_inv (k : Nat) (i : Instr) (len : Nat) (st : List Value) (h : mm_H) : Option (Nat × List Value × List Value) :=
  match i, len with
  | .invokestatic idx, 3 => match t_mth (t_o k) idx with
    | some (k', np, 0) => match mm_split np st with
      | some (as, r) => cond (Nat.ble (mm_w r) 12 && Nat.ble (lg_sl as).length (t_nl k')) (some (k', as, r)) none
      | none => none
    | _ => none
  | .invokevirtual idx, 3 => match t_mth (t_o k) idx with
    | some (k', np, 1) => match mm_split np st with
      | some (as, .ref b :: r) => match h.2.2 b with
        | some (.inl (ci, _)) => cond (Nat.beq ci (t_rc k') && (Nat.ble (mm_w r) 12 && Nat.ble (lg_sl (.ref b :: as)).length (t_nl k'))) (some (k', .ref b :: as, r)) none
        | _ => none
      | _ => none
    | _ => none
  | .invokespecial idx, 3 => match t_mth (t_o k) idx with
    | some (k', np, 2) => match mm_split np st with
      | some (as, .ref b :: r) => cond (Nat.ble (mm_w r) 12 && Nat.ble (lg_sl (.ref b :: as)).length (t_nl k')) (some (k', .ref b :: as, r)) none
      | _ => none
    | _ => none
  | _, _ => none
def mm_find : List (Nat × Nat × Nat × Nat) → Nat → Nat → Option Nat
  | [], _, _ => none
  | (a, b, t, x) :: r, pc, y => cond (Nat.ble a pc && (Nat.ble (pc + 1) b && Nat.beq x y)) (some t) (mm_find r pc y)
def mm_exec : Nat → Nat → Nat → Nat → mm_L → List Value → mm_H → Option (mm_O × mm_H)
  | 0, _, _, _, _, _, _ => none
  | n + 1, d, k, pc, lv, st, h => match t_cod k pc with
    | none => none
    | some (i, len) => match mm_step k d i len pc lv st h with
      | some (pc', lv', st', h') => mm_exec n d k pc' lv' st' h'
      | none => match mm_ret (t_rt k) i len st with
        | some v => some (.inl v, h)
        | none => match mm_thr k d pc i len st h with
          | some (x, h') => some (.inr (x, h.1), h')
          | none => match mm_inv k i len st h with
            | none => none
            | some (k', as, rest) => match d with
              | 0 => none
              | d' + 1 => match mm_exec n d' k' 0 (lv_args 0 as) [] h with
                | none => none
                | some (.inl v, h') => mm_exec n (d' + 1) k (pc + len) lv (v.toList ++ rest) h'
                | some (.inr x, h') => match mm_find (t_hx k) pc x.1 with
                  | some pc' => mm_exec n (d' + 1) k pc' lv [.ref x.2] h'
                  | none => cond (Nat.beq (t_hh k).length 0) (some (.inr x, h')) none
