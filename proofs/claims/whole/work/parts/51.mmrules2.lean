section WX2
variable {d k pc : Nat} {lv : mm_L} {r : List Value} {h : mm_H} {Q : mm_O × mm_H → Prop} {idx a ci j n t : Nat} {fs : List Value} {v : Value} {f : Nat → Value}
theorem mm_step_fa {i : Instr} {len : Nat} {st st' : List Value} {h' : mm_H} (h1 : mm_load lv i len = none) (h2 : mm_store (t_nl k) lv i len st = none) (h3 : mm_arith i len st = none) (h4 : mm_stack i len st = none) (h5 : mm_jump pc i len st = none)
    (h6 : mm_rd h i len st = none) (h7 : mm_wr h i len st = none) (h8 : mm_fa k d i len st h = some (st', h')) : mm_step k d i len pc lv st h = some (pc + len, lv, st', h') := by
  unfold mm_step
  rw [h1]; dsimp only
  rw [h2]; dsimp only
  rw [h3]; dsimp only
  rw [h4]; dsimp only
  rw [h5]; dsimp only
  rw [h6]; dsimp only
  rw [h7]; dsimp only
  rw [h8]
theorem mm_step_rd {i : Instr} {len : Nat} {st st' : List Value} (h1 : mm_load lv i len = none) (h2 : mm_store (t_nl k) lv i len st = none) (h3 : mm_arith i len st = none) (h4 : mm_stack i len st = none) (h5 : mm_jump pc i len st = none)
    (h6 : mm_rd h i len st = some st') : mm_step k d i len pc lv st h = some (pc + len, lv, st', h) := by
  unfold mm_step
  rw [h1]; dsimp only
  rw [h2]; dsimp only
  rw [h3]; dsimp only
  rw [h4]; dsimp only
  rw [h5]; dsimp only
  rw [h6]
theorem mm_step_wr {i : Instr} {len : Nat} {st st' : List Value} {h' : mm_H} (h1 : mm_load lv i len = none) (h2 : mm_store (t_nl k) lv i len st = none) (h3 : mm_arith i len st = none) (h4 : mm_stack i len st = none) (h5 : mm_jump pc i len st = none)
    (h6 : mm_rd h i len st = none) (h7 : mm_wr h i len st = some (st', h')) : mm_step k d i len pc lv st h = some (pc + len, lv, st', h') := by
  unfold mm_step
  rw [h1]; dsimp only
  rw [h2]; dsimp only
  rw [h3]; dsimp only
  rw [h4]; dsimp only
  rw [h5]; dsimp only
  rw [h6]; dsimp only
  rw [h7]
theorem x_get (hc : t_cod k pc = some (.getfield idx, 3)) (hf : t_fld (t_o k) idx = some (ci, j)) (ha : h.2.2 a = some (.inl (ci, fs))) (hv : fs[j]? = some v) (w : Wx d k (pc + 3) lv (v :: r) h Q) : Wx d k pc lv (.ref a :: r) h Q :=
  x_step hc (mm_step_fa rfl rfl rfl rfl rfl rfl rfl (by simp [mm_fa, hf, ha, hv, mm_beq_self])) w
theorem x_put (hc : t_cod k pc = some (.putfield idx, 3)) (hf : t_fld (t_o k) idx = some (ci, j)) (ha : h.2.2 a = some (.inl (ci, fs))) (hg : (mm_fit (t_ct ci j) v && (Nat.ble (j + 1) fs.length && (!(t_fin ci j) || t_ini k ci))) = true)
    (w : Wx d k (pc + 3) lv r (mm_upd h a (.inl (ci, fs.set j v))) Q) : Wx d k pc lv (v :: .ref a :: r) h Q :=
  x_step hc (mm_step_fa rfl rfl rfl rfl rfl rfl rfl (by simp only [mm_fa, hf, ha, mm_beq_self, hg, Bool.true_and, cond_true])) w
theorem x_ldc {x : Int32} (hc : t_cod k pc = some (.ldc idx, 2)) (hf : t_ci (t_o k) idx = some x) (w : Wx d k (pc + 2) lv (.int x :: r) h Q) : Wx d k pc lv r h Q :=
  x_step hc (mm_step_fa rfl rfl rfl rfl rfl rfl rfl (by simp only [mm_fa, hf])) w
theorem x_ldc2 {x : Int64} (hc : t_cod k pc = some (.ldc2_w idx, 3)) (hf : t_cj (t_o k) idx = some x) (w : Wx d k (pc + 3) lv (.long x :: r) h Q) : Wx d k pc lv r h Q :=
  x_step hc (mm_step_fa rfl rfl rfl rfl rfl rfl rfl (by simp only [mm_fa, hf])) w
theorem x_obj (hc : t_cod k pc = some (.invokespecial idx, 3)) (hf : (t_obi (t_o k) idx && (Nat.ble 1 d && Nat.ble (mm_w r) 12)) = true) (w : Wx d k (pc + 3) lv r h Q) : Wx d k pc lv (.ref a :: r) h Q :=
  x_step hc (mm_step_fa rfl rfl rfl rfl rfl rfl rfl (by simp only [mm_fa, hf, cond_true])) w
theorem x_max {x y : Int64} (hc : t_cod k pc = some (.invokestatic idx, 3)) (hf : t_mx (t_o k) idx = some true) (hg : (Nat.ble 1 d && Nat.ble (mm_w r) 12) = true) (w : Wx d k (pc + 3) lv (.long (if y < x then x else y) :: r) h Q) : Wx d k pc lv (.long y :: .long x :: r) h Q :=
  x_step hc (mm_step_fa rfl rfl rfl rfl rfl rfl rfl (by simp only [mm_fa, hf, hg, cond_true])) w
theorem x_min {x y : Int64} (hc : t_cod k pc = some (.invokestatic idx, 3)) (hf : t_mx (t_o k) idx = some false) (hg : (Nat.ble 1 d && Nat.ble (mm_w r) 12) = true) (w : Wx d k (pc + 3) lv (.long (if y < x then y else x) :: r) h Q) : Wx d k pc lv (.long y :: .long x :: r) h Q :=
  x_step hc (mm_step_fa rfl rfl rfl rfl rfl rfl rfl (by simp only [mm_fa, hf, hg, cond_true])) w
theorem x_iald {q : Int32} (hc : t_cod k pc = some (.iaload, 1)) (ha : h.2.2 a = some (.inr (0, n, f))) (hi : mm_idx q n = some j) (w : Wx d k (pc + 1) lv (f j :: r) h Q) : Wx d k pc lv (.int q :: .ref a :: r) h Q :=
  x_step hc (mm_step_rd rfl rfl rfl rfl rfl (by simp only [mm_rd, ha, hi, Option.map_some])) w
theorem x_sald {q : Int32} (hc : t_cod k pc = some (.iaload, 1)) (ha : h.2.2 a = some (.inr (5, n, f))) (hi : mm_idx q n = some j) (w : Wx d k (pc + 1) lv (f j :: r) h Q) : Wx d k pc lv (.int q :: .ref a :: r) h Q :=
  x_step hc (mm_step_rd rfl rfl rfl rfl rfl (by simp only [mm_rd, ha, hi, Option.map_some])) w
theorem x_lald {q : Int32} (hc : t_cod k pc = some (.laload, 1)) (ha : h.2.2 a = some (.inr (1, n, f))) (hi : mm_idx q n = some j) (w : Wx d k (pc + 1) lv (f j :: r) h Q) : Wx d k pc lv (.int q :: .ref a :: r) h Q :=
  x_step hc (mm_step_rd rfl rfl rfl rfl rfl (by simp only [mm_rd, ha, hi, Option.map_some])) w
theorem x_zald {q : Int32} (hc : t_cod k pc = some (.baload, 1)) (ha : h.2.2 a = some (.inr (2, n, f))) (hi : mm_idx q n = some j) (w : Wx d k (pc + 1) lv (f j :: r) h Q) : Wx d k pc lv (.int q :: .ref a :: r) h Q :=
  x_step hc (mm_step_rd rfl rfl rfl rfl rfl (by simp only [mm_rd, ha, hi, Option.map_some])) w
theorem x_aald3 {q : Int32} (hc : t_cod k pc = some (.aaload, 1)) (ha : h.2.2 a = some (.inr (3, n, f))) (hi : mm_idx q n = some j) (w : Wx d k (pc + 1) lv (f j :: r) h Q) : Wx d k pc lv (.int q :: .ref a :: r) h Q :=
  x_step hc (mm_step_rd rfl rfl rfl rfl rfl (by simp only [mm_rd, ha, hi, Option.map_some])) w
theorem x_aald4 {q : Int32} (hc : t_cod k pc = some (.aaload, 1)) (ha : h.2.2 a = some (.inr (4, n, f))) (hi : mm_idx q n = some j) (w : Wx d k (pc + 1) lv (f j :: r) h Q) : Wx d k pc lv (.int q :: .ref a :: r) h Q :=
  x_step hc (mm_step_rd rfl rfl rfl rfl rfl (by simp only [mm_rd, ha, hi, Option.map_some])) w
theorem x_alen1 (hc : t_cod k pc = some (.arraylength, 1)) (ha : h.2.2 a = some (.inr (1, n, f))) (w : Wx d k (pc + 1) lv (.int (Int32.ofNat n) :: r) h Q) : Wx d k pc lv (.ref a :: r) h Q :=
  x_step hc (mm_step_rd rfl rfl rfl rfl rfl (by simp only [mm_rd, ha])) w
theorem x_alen5 (hc : t_cod k pc = some (.arraylength, 1)) (ha : h.2.2 a = some (.inr (5, n, f))) (w : Wx d k (pc + 1) lv (.int (Int32.ofNat n) :: r) h Q) : Wx d k pc lv (.ref a :: r) h Q :=
  x_step hc (mm_step_rd rfl rfl rfl rfl rfl (by simp only [mm_rd, ha])) w
theorem x_iast {q x : Int32} (hc : t_cod k pc = some (.iastore, 1)) (ha : h.2.2 a = some (.inr (0, n, f))) (hi : mm_idx q n = some j) (w : Wx d k (pc + 1) lv r (mm_upd h a (.inr (0, n, updV f j (.int x)))) Q) : Wx d k pc lv (.int x :: .int q :: .ref a :: r) h Q :=
  x_step hc (mm_step_wr rfl rfl rfl rfl rfl rfl (by simp only [mm_wr, ha, hi, Option.map_some])) w
theorem x_last {q : Int32} {x : Int64} (hc : t_cod k pc = some (.lastore, 1)) (ha : h.2.2 a = some (.inr (1, n, f))) (hi : mm_idx q n = some j) (w : Wx d k (pc + 1) lv r (mm_upd h a (.inr (1, n, updV f j (.long x)))) Q) : Wx d k pc lv (.long x :: .int q :: .ref a :: r) h Q :=
  x_step hc (mm_step_wr rfl rfl rfl rfl rfl rfl (by simp only [mm_wr, ha, hi, Option.map_some])) w
theorem x_zast {q x : Int32} (hc : t_cod k pc = some (.bastore, 1)) (ha : h.2.2 a = some (.inr (2, n, f))) (hi : mm_idx q n = some j) (hx : (x == 0 || x == 1) = true) (w : Wx d k (pc + 1) lv r (mm_upd h a (.inr (2, n, updV f j (.int x)))) Q) : Wx d k pc lv (.int x :: .int q :: .ref a :: r) h Q :=
  x_step hc (mm_step_wr rfl rfl rfl rfl rfl rfl (by simp only [mm_wr, ha, hi, hx, Option.map_some, cond_true])) w
theorem x_aast3 {q : Int32} {b : Nat} (hc : t_cod k pc = some (.aastore, 1)) (ha : h.2.2 a = some (.inr (3, n, f))) (hb : h.2.2 b = some (.inl (1, fs))) (hi : mm_idx q n = some j) (w : Wx d k (pc + 1) lv r (mm_upd h a (.inr (3, n, updV f j (.ref b)))) Q) : Wx d k pc lv (.ref b :: .int q :: .ref a :: r) h Q :=
  x_step hc (mm_step_wr rfl rfl rfl rfl rfl rfl (by simp only [mm_wr, ha, hb, hi, Option.map_some])) w
theorem x_aast4 {q : Int32} {b : Nat} (hc : t_cod k pc = some (.aastore, 1)) (ha : h.2.2 a = some (.inr (4, n, f))) (hb : h.2.2 b = some (.inl (2, fs))) (hi : mm_idx q n = some j) (w : Wx d k (pc + 1) lv r (mm_upd h a (.inr (4, n, updV f j (.ref b)))) Q) : Wx d k pc lv (.ref b :: .int q :: .ref a :: r) h Q :=
  x_step hc (mm_step_wr rfl rfl rfl rfl rfl rfl (by simp only [mm_wr, ha, hb, hi, Option.map_some])) w
theorem x_new (hc : t_cod k pc = some (.new idx, 3)) (hf : t_cls (t_o k) idx = some ci) (hg : (Nat.ble 1 h.2.1.1 && Nat.ble (t_N ci) h.2.1.2) = true) (w : Wx d k (pc + 3) lv (.ref h.1 :: r) (mm_push h (t_N ci) (.inl (ci, t_df ci))) Q) : Wx d k pc lv r h Q :=
  x_step hc (mm_step_fa rfl rfl rfl rfl rfl rfl rfl (by simp only [mm_fa, hf, hg, cond_true])) w
theorem x_newa {ty : ArrayType} {q : Int32} (hc : t_cod k pc = some (.newarray ty, 2)) (hf : t_at ty = some t) (hg : ¬ (q < 0 ∨ 60000000 < q.toNatClampNeg ∨ h.2.1.1 < 1 ∨ h.2.1.2 < q.toNatClampNeg)) (w : Wx d k (pc + 2) lv (.ref h.1 :: r) (mm_push h q.toNatClampNeg (.inr (t, q.toNatClampNeg, fun _ => defaultValue (mm_ty t)))) Q) : Wx d k pc lv (.int q :: r) h Q :=
  x_step hc (mm_step_fa rfl rfl rfl rfl rfl rfl rfl (by simp only [mm_fa, hf, if_neg hg])) w
theorem x_anew {q : Int32} (hc : t_cod k pc = some (.anewarray idx, 3)) (hf : t_ary (t_o k) idx = some t) (hg : ¬ (q < 0 ∨ 60000000 < q.toNatClampNeg ∨ h.2.1.1 < 1 ∨ h.2.1.2 < q.toNatClampNeg)) (w : Wx d k (pc + 3) lv (.ref h.1 :: r) (mm_push h q.toNatClampNeg (.inr (t, q.toNatClampNeg, fun _ => .null))) Q) : Wx d k pc lv (.int q :: r) h Q :=
  x_step hc (mm_step_fa rfl rfl rfl rfl rfl rfl rfl (by simp only [mm_fa, hf, if_neg hg])) w
end WX2
