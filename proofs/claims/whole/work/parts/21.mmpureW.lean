theorem mm_cond {α : Type} {b : Bool} {x y : α} (h : cond b (some x) none = some y) : b = true ∧ x = y := by
  cases b with
  | true => exact ⟨rfl, Option.some.inj h⟩
  | false => cases h
theorem mm_getI {lv : mm_L} {k : Nat} {v : Value} (h : (mm_get lv k).bind mm_isInt = some v) : ∃ x, v = .int x ∧ (k, Value.int x) ∈ lv := by
  cases hg : mm_get lv k with
  | none => rw [hg] at h; cases h
  | some w =>
    rw [hg] at h
    cases w with
    | int x => cases h; exact ⟨x, rfl, mm_get_mem _ _ _ hg⟩
    | _ => cases h
theorem mm_getL {lv : mm_L} {k : Nat} {v : Value} (h : (mm_get lv k).bind mm_isLong = some v) : ∃ x, v = .long x ∧ (k, Value.long x) ∈ lv := by
  cases hg : mm_get lv k with
  | none => rw [hg] at h; cases h
  | some w =>
    rw [hg] at h
    cases w with
    | long x => cases h; exact ⟨x, rfl, mm_get_mem _ _ _ hg⟩
    | _ => cases h
theorem mm_getR {lv : mm_L} {k : Nat} {v : Value} (h : (mm_get lv k).bind mm_isRef = some v) : ∃ x, v = .ref x ∧ (k, Value.ref x) ∈ lv := by
  cases hg : mm_get lv k with
  | none => rw [hg] at h; cases h
  | some w =>
    rw [hg] at h
    cases w with
    | ref x => cases h; exact ⟨x, rfl, mm_get_mem _ _ _ hg⟩
    | _ => cases h
theorem mm_br_ok {b : Bool} {pc pc' : Nat} {off : Int} {r st' : List Value} (h : mm_br b pc off r = some (pc', st')) : ∃ t, mm_tgt pc off = some t ∧ cond b t (pc + 3) = pc' ∧ r = st' := by
  unfold mm_br at h
  cases ht : mm_tgt pc off with
  | none => rw [ht] at h; cases h
  | some t => rw [ht] at h; cases h; exact ⟨t, rfl, rfl, rfl⟩
theorem mm_go_ok {pc pc' : Nat} {off : Int} {r st' : List Value} (h : (mm_tgt pc off).map (fun t => (t, r)) = some (pc', st')) : mm_tgt pc off = some pc' ∧ r = st' := by
  cases ht : mm_tgt pc off with
  | none => rw [ht] at h; cases h
  | some t => rw [ht] at h; cases h; exact ⟨rfl, rfl⟩
theorem mm_cat {n k : Nat} (h : Nat.beq n k = true) : n = k := Nat.eq_of_beq_eq_true h
section MMP
variable {p : Program} {l : Launch} {e : Env} {R : Room} {s : State} {m : MethodId} {args : Array Value} {below : List Frame} {meth : Method} {c : Code} {H : Heap} {locs : List Loc} {cells slots : Nat} {Q : State → Prop}
variable {cc : ByteArray} {pc len : Nat} {ls : Array Slot} {st st' : List Value} {i : Instr} {lv lv' : mm_L} {nl : Nat} {v : Value}
set_option maxHeartbeats 4000000 in
theorem mm_load_W (hx : p.tables.exec = Jvm.exec) (hb : c.code = cc) (hl : lv_has ls nl lv) (hd : decode cc pc = .ok (i, len)) (h : mm_load lv i len = some v)
    (k : W p l e R s m args below meth c H locs cells slots Q (F0 m (pc + len) ls (v :: st))) : W p l e R s m args below meth c H locs cells slots Q (F0 m pc ls st) := by
  unfold mm_load at h
  split at h
  · cases h; exact lv_iconst hx hb hd rfl k
  · cases h; exact lv_bipush hx hb hd rfl k
  · cases h; exact lv_sipush hx hb hd rfl k
  · cases h; exact lv_lconst hx hb hd rfl k
  · obtain ⟨x, rfl, hm⟩ := mm_getI h; exact lv_iload_n hx hb hd rfl (hl.2.2 _ hm) k
  · obtain ⟨x, rfl, hm⟩ := mm_getI h; exact lv_iload hx hb hd (hl.2.2 _ hm) k
  · obtain ⟨x, rfl, hm⟩ := mm_getL h; exact lv_lload_n hx hb hd rfl (hl.2.2 _ hm) k
  · obtain ⟨x, rfl, hm⟩ := mm_getL h; exact lv_lload hx hb hd (hl.2.2 _ hm) k
  · obtain ⟨x, rfl, hm⟩ := mm_getR h; exact lv_aload_n hx hb hd rfl (hl.2.2 _ hm) k
  · obtain ⟨x, rfl, hm⟩ := mm_getR h; exact lv_aload hx hb hd (hl.2.2 _ hm) k
  · cases h
set_option maxHeartbeats 4000000 in
theorem mm_store_W (hx : p.tables.exec = Jvm.exec) (hb : c.code = cc) (hl : lv_has ls nl lv) (hd : decode cc pc = .ok (i, len)) (h : mm_store nl lv i len st = some (lv', st'))
    (k : ∀ ls' : Array Slot, lv_has ls' nl lv' → W p l e R s m args below meth c H locs cells slots Q (F0 m (pc + len) ls' st')) : W p l e R s m args below meth c H locs cells slots Q (F0 m pc ls st) := by
  unfold mm_store at h
  split at h
  · obtain ⟨h1, h2⟩ := mm_cond h; cases h2; exact lv_istore_n hx hb hd rfl hl (Nat.le_of_ble_eq_true h1) (by rw [mm_del1_eq]) k
  · obtain ⟨h1, h2⟩ := mm_cond h; cases h2; exact lv_istore hx hb hd hl (Nat.le_of_ble_eq_true h1) (by rw [mm_del1_eq]) k
  · obtain ⟨h1, h2⟩ := mm_cond h; cases h2; exact lv_lstore_n hx hb hd rfl hl (Nat.le_of_ble_eq_true h1) (by rw [mm_del2_eq]) k
  · obtain ⟨h1, h2⟩ := mm_cond h; cases h2; exact lv_lstore hx hb hd hl (Nat.le_of_ble_eq_true h1) (by rw [mm_del2_eq]) k
  · obtain ⟨h1, h2⟩ := mm_cond h; cases h2; exact lv_astore_n hx hb hd rfl hl (Nat.le_of_ble_eq_true h1) (by rw [mm_del1_eq]) k
  · obtain ⟨h1, h2⟩ := mm_cond h; cases h2; exact lv_astore hx hb hd hl (Nat.le_of_ble_eq_true h1) (by rw [mm_del1_eq]) k
  · split at h
    · rename_i hg
      obtain ⟨h1, h2⟩ := mm_cond h
      cases h2
      obtain ⟨q, hq⟩ := List.getElem?_of_mem (mm_get_mem _ _ _ hg)
      exact lv_iinc hx hb hd hl hq rfl (Nat.le_of_ble_eq_true h1) (by rw [mm_del1_eq]) k
    · cases h
  · cases h
set_option maxHeartbeats 4000000 in
theorem mm_arith_W (hx : p.tables.exec = Jvm.exec) (hb : c.code = cc) (hd : decode cc pc = .ok (i, len)) (h : mm_arith i len st = some st')
    (k : W p l e R s m args below meth c H locs cells slots Q (F0 m (pc + len) ls st')) : W p l e R s m args below meth c H locs cells slots Q (F0 m pc ls st) := by
  unfold mm_arith at h
  split at h
  · cases h; exact lv_iadd hx hb hd k
  · cases h; exact lv_isub hx hb hd k
  · cases h; exact lv_imul hx hb hd k
  · cases h; exact lv_iand hx hb hd k
  · split at h
    · cases h
    · rename_i hne; cases h; exact lv_idiv hx hb hd hne k
  · cases h; exact lv_ladd hx hb hd k
  · cases h; exact lv_lsub hx hb hd k
  · cases h; exact lv_lmul hx hb hd k
  · cases h; exact lv_land hx hb hd k
  · cases h; exact lv_lor hx hb hd k
  · split at h
    · cases h
    · rename_i hne; cases h; exact lv_ldiv hx hb hd hne k
  · split at h
    · cases h
    · rename_i hne; cases h; exact lv_lrem hx hb hd hne k
  · cases h; exact W.lcmp hx hb hd k
  · cases h; exact lv_i2l hx hb hd rfl k
  · cases h; exact lv_l2i hx hb hd rfl k
  · cases h; exact lv_lshl hx hb hd rfl k
  · cases h
set_option maxHeartbeats 4000000 in
theorem mm_stack_W (hx : p.tables.exec = Jvm.exec) (hb : c.code = cc) (hd : decode cc pc = .ok (i, len)) (h : mm_stack i len st = some st')
    (k : W p l e R s m args below meth c H locs cells slots Q (F0 m (pc + len) ls st')) : W p l e R s m args below meth c H locs cells slots Q (F0 m pc ls st) := by
  unfold mm_stack at h
  split at h
  · obtain ⟨h1, h2⟩ := mm_cond h; cases h2; exact lv_dup hx hb hd (mm_cat h1) k
  · obtain ⟨h1, h2⟩ := mm_cond h; cases h2; exact lv_pop hx hb hd (mm_cat h1) k
  · obtain ⟨h1, h2⟩ := mm_cond h; cases h2; rw [Bool.and_eq_true] at h1; exact lv_dup_x1 hx hb hd (mm_cat h1.1) (mm_cat h1.2) k
  · obtain ⟨h1, h2⟩ := mm_cond h; cases h2; rw [Bool.and_eq_true, Bool.and_eq_true] at h1; exact lv_dup_x2 hx hb hd (mm_cat h1.1) (mm_cat h1.2.1) (mm_cat h1.2.2) k
  · obtain ⟨h1, h2⟩ := mm_cond h; cases h2; exact lv_pop2_2 hx hb hd (mm_cat h1) k
  · obtain ⟨h1, h2⟩ := mm_cond h; cases h2; rw [Bool.and_eq_true] at h1; exact lv_dup2_x1_2 hx hb hd (mm_cat h1.1) (mm_cat h1.2) k
  · obtain ⟨h1, h2⟩ := mm_cond h; cases h2; rw [Bool.and_eq_true, Bool.and_eq_true] at h1; exact lv_dup2_x2_2 hx hb hd (mm_cat h1.1) (mm_cat h1.2.1) (mm_cat h1.2.2) k
  · obtain ⟨h1, h2⟩ := mm_cond h; cases h2; exact lv_dup2_11 hx hb hd rfl (mm_cat h1) k
  · obtain ⟨h1, h2⟩ := mm_cond h; cases h2; exact lv_dup2_11 hx hb hd rfl (mm_cat h1) k
  · cases h; exact lv_dup2_2 hx hb hd rfl k
  · cases h
set_option maxHeartbeats 8000000 in
theorem mm_jump_W {pc' : Nat} (hx : p.tables.exec = Jvm.exec) (hb : c.code = cc) (hd : decode cc pc = .ok (i, len)) (h : mm_jump pc i len st = some (pc', st'))
    (k : W p l e R s m args below meth c H locs cells slots Q (F0 m pc' ls st')) : W p l e R s m args below meth c H locs cells slots Q (F0 m pc ls st) := by
  unfold mm_jump at h
  split at h
  · obtain ⟨h1, rfl⟩ := mm_go_ok h; exact lv_goto hx hb hd (mm_tgt_ok h1) k
  · obtain ⟨t, ht, rfl, rfl⟩ := mm_br_ok h; exact lv_if_eq hx hb hd (mm_tgt_ok ht) (fun q => by rw [decide_eq_true q] at k; exact k) (fun q => by rw [decide_eq_false q] at k; exact k)
  · obtain ⟨t, ht, rfl, rfl⟩ := mm_br_ok h; exact lv_if_ne hx hb hd (mm_tgt_ok ht) (fun q => by rw [decide_eq_true q] at k; exact k) (fun q => by rw [decide_eq_false (fun z => z q)] at k; exact k)
  · obtain ⟨t, ht, rfl, rfl⟩ := mm_br_ok h; exact lv_if_lt hx hb hd (mm_tgt_ok ht) (fun q => by rw [decide_eq_true q] at k; exact k) (fun q => by rw [decide_eq_false q] at k; exact k)
  · obtain ⟨t, ht, rfl, rfl⟩ := mm_br_ok h; exact lv_if_ge hx hb hd (mm_tgt_ok ht) (fun q => by rw [decide_eq_true q] at k; exact k) (fun q => by rw [decide_eq_false q] at k; exact k)
  · obtain ⟨t, ht, rfl, rfl⟩ := mm_br_ok h; exact lv_if_gt hx hb hd (mm_tgt_ok ht) (fun q => by rw [decide_eq_true q] at k; exact k) (fun q => by rw [decide_eq_false q] at k; exact k)
  · obtain ⟨t, ht, rfl, rfl⟩ := mm_br_ok h; exact lv_if_le hx hb hd (mm_tgt_ok ht) (fun q => by rw [decide_eq_true q] at k; exact k) (fun q => by rw [decide_eq_false q] at k; exact k)
  · obtain ⟨t, ht, rfl, rfl⟩ := mm_br_ok h; exact lv_icmp_eq hx hb hd (mm_tgt_ok ht) (fun q => by rw [decide_eq_true q] at k; exact k) (fun q => by rw [decide_eq_false q] at k; exact k)
  · obtain ⟨t, ht, rfl, rfl⟩ := mm_br_ok h; exact lv_icmp_ne hx hb hd (mm_tgt_ok ht) (fun q => by rw [decide_eq_true q] at k; exact k) (fun q => by rw [decide_eq_false (fun z => z q)] at k; exact k)
  · obtain ⟨t, ht, rfl, rfl⟩ := mm_br_ok h; exact lv_icmp_lt hx hb hd (mm_tgt_ok ht) (fun q => by rw [decide_eq_true q] at k; exact k) (fun q => by rw [decide_eq_false q] at k; exact k)
  · obtain ⟨t, ht, rfl, rfl⟩ := mm_br_ok h; exact lv_icmp_ge hx hb hd (mm_tgt_ok ht) (fun q => by rw [decide_eq_true q] at k; exact k) (fun q => by rw [decide_eq_false q] at k; exact k)
  · obtain ⟨t, ht, rfl, rfl⟩ := mm_br_ok h; exact lv_icmp_gt hx hb hd (mm_tgt_ok ht) (fun q => by rw [decide_eq_true q] at k; exact k) (fun q => by rw [decide_eq_false q] at k; exact k)
  · obtain ⟨t, ht, rfl, rfl⟩ := mm_br_ok h; exact lv_icmp_le hx hb hd (mm_tgt_ok ht) (fun q => by rw [decide_eq_true q] at k; exact k) (fun q => by rw [decide_eq_false q] at k; exact k)
  · rename_i y x r
    obtain ⟨t, ht, rfl, rfl⟩ := mm_br_ok h; exact lv_acmp_eq (rx := some x) (ry := some y) hx hb hd (mm_tgt_ok ht) (fun q => by rw [decide_eq_true (Option.some.inj q)] at k; exact k) (fun q => by rw [decide_eq_false (fun z => q (by rw [z]))] at k; exact k)
  · rename_i y x r
    obtain ⟨t, ht, rfl, rfl⟩ := mm_br_ok h; exact lv_acmp_ne (rx := some x) (ry := some y) hx hb hd (mm_tgt_ok ht) (fun q => by rw [decide_eq_true (show ¬ x = y from fun z => q (by rw [z]))] at k; exact k) (fun q => by rw [decide_eq_false (show ¬ ¬ x = y from fun z => z (Option.some.inj q))] at k; exact k)
  · split at h
    · rename_i hc
      obtain ⟨h1, rfl⟩ := mm_go_ok h
      exact lv_tableOut hx hb hd hc (mm_tgt_ok h1) k
    · rename_i hc
      split at h
      · rename_i ho
        obtain ⟨h1, rfl⟩ := mm_go_ok h
        exact lv_tableIn hx hb hd (fun q => hc (Or.inl q)) (fun q => hc (Or.inr q)) ho (mm_tgt_ok h1) k
      · cases h
  · cases h
end MMP
