section MMN
variable {p : Program} {l : Launch} {e : Env} {R : Room} {s : State} {m : MethodId} {args : Array Value} {below : List Frame} {meth : Method} {c : Code} {H : Heap} {locs : List Loc} {cells slots : Nat} {Q : State → Prop}
variable {cc : ByteArray} {pc : Nat} {ls : Array Slot} {rest : List Value} {D : va_G} {aC : Nat → ClassId} {cl : List vw_C} {H0 : Heap} {h : mm_H} {Ts : List Cond}
theorem mm_new_W (hx : p.tables.exec = Jvm.exec) (hb : c.code = cc) (hts : ∀ w ∈ Ts, w.before args s = true) {own : String} (hown : s.vm.findClass own = some m.cls) (hK : mm_Kn D aC cl s) (hE : mm_emb D aC cl H0 h H)
    {C : String} {T : u_T} {N ci idx : Nat} (hc : cl[ci]? = some (C, T, N)) (hin : ∀ w ∈ u_ws C T N, w ∈ Ts) (ty : Nat → FieldType) (hty : ∀ k, k < N → parseFieldDescriptor (T k).2.2.1 = some (ty k)) {fs : List Value} (hfs : ∀ j, j < N → defaultValue (ty j) = vp_V fs j)
    (hl : Cond.classLink own idx C ∈ Ts) (hi : Cond.instantiable C N ∈ Ts) (hn : Cond.initialized C ∈ Ts) (hcells : cells + 1 ≤ R.cells) (hslots : slots + N ≤ R.slots) (hd : decode cc pc = .ok (.new idx, 3))
    (kk : ∀ H1 : Heap, mm_emb D aC cl H0 (mm_push h N (.inl (ci, fs))) H1 → W p l e R s m args below meth c H1 locs (cells + 1) (slots + N) Q (F0 m (pc + 3) ls (.ref h.1 :: rest))) :
    W p l e R s m args below meth c H locs cells slots Q (F0 m pc ls rest) := by
  have hKn := hK.1 ci _ hc
  refine W.newcK hx hb hown (hts _ hl) (hts _ hi) (hts _ hn) rfl hd hcells hslots hKn.2.1 hE.1 fun H1 kC hkC e1 z1 o1 => ?_
  refine kk H1 (hE.push z1 (fun q hq => o1 q hq) ⟨_, hc, (u_born ty hts hin hKn hkC e1 hty).to hfs⟩ (fun cell hcl => ?_))
  rw [e1] at hcl
  cases hcl
  rfl
theorem mm_newa_W (hx : p.tables.exec = Jvm.exec) (hb : c.code = cc) (hts : ∀ w ∈ Ts, w.before args s = true) (hK : mm_Kn D aC cl s) (hE : mm_emb D aC cl H0 h H)
    {atype : ArrayType} {t N : Nat} (ht : t < 3) (hty : newarray.typeOf atype = mm_ty t) (hw : Cond.arrayClass (mm_ty t) ∈ Ts) {n : Int32} (hn : ¬ n < 0) (hN : n.toNatClampNeg = N) (hbytes : N * 8 ≤ 536870912)
    (hcells : cells + 1 ≤ R.cells) (hslots : slots + N ≤ R.slots) (hd : decode cc pc = .ok (.newarray atype, 2))
    (kk : ∀ H1 : Heap, mm_emb D aC cl H0 (mm_push h N (.inr (t, N, fun _ => defaultValue (mm_ty t)))) H1 → W p l e R s m args below meth c H1 locs (cells + 1) (slots + N) Q (F0 m (pc + 2) ls (.ref h.1 :: rest))) :
    W p l e R s m args below meth c H locs cells slots Q (F0 m pc ls (.int n :: rest)) := by
  have hcb : N * componentBytes (newarray.typeOf atype) ≤ 536870912 := by
    rw [hty]
    have : componentBytes (mm_ty t) ≤ 8 := by
      rcases (show t = 0 ∨ t = 1 ∨ t = 2 by omega) with rfl | rfl | rfl <;> decide
    exact Nat.le_trans (Nat.mul_le_mul_left N this) hbytes
  refine va_newaK hx hb (by rw [hty]; exact hts _ hw) rfl hd rfl hn hN hcb hcells hslots hE.1 fun H1 cA e1 z1 o1 hAr hNm => ?_
  have hcA : cA = aC t := by
    have h1 := hK.2.2 t (by omega)
    rw [hty] at hNm
    rcases (show t = 0 ∨ t = 1 ∨ t = 2 by omega) with rfl | rfl | rfl <;> exact Option.some.inj (hNm.symm.trans h1)
  subst hcA
  rw [hty] at e1
  refine kk H1 (hE.push z1 (fun q hq => o1 q hq) ⟨_, e1, rfl, (fun hz => by cases hz), (fun k hz => by cases hz), arrV_size _ _ _, fun j hj => arrV_read _ _ hj⟩ (fun cell hcl => ?_))
  rw [e1] at hcl
  cases hcl
  rfl
theorem mm_anew_W (hx : p.tables.exec = Jvm.exec) (hb : c.code = cc) (hts : ∀ w ∈ Ts, w.before args s = true) {own : String} (hown : s.vm.findClass own = some m.cls) (hK : mm_Kn D aC cl s) (hE : mm_emb D aC cl H0 h H)
    {C : String} {t N idx : Nat} (ht : t < 5) (hty : mm_ty t = .object C) (hl : Cond.classLink own idx C ∈ Ts) (hw : Cond.arrayOver (.object C) ∈ Ts) {n : Int32} (hn : ¬ n < 0) (hN : n.toNatClampNeg = N) (hbytes : N * 4 ≤ 536870912)
    (hcells : cells + 1 ≤ R.cells) (hslots : slots + N ≤ R.slots) (hd : decode cc pc = .ok (.anewarray idx, 3))
    (kk : ∀ H1 : Heap, mm_emb D aC cl H0 (mm_push h N (.inr (t, N, fun _ => .null))) H1 → W p l e R s m args below meth c H1 locs (cells + 1) (slots + N) Q (F0 m (pc + 3) ls (.ref h.1 :: rest))) :
    W p l e R s m args below meth c H locs cells slots Q (F0 m pc ls (.int n :: rest)) := by
  subst hN
  refine W.anew hx hb hown (hts _ hl) (hts _ hw) rfl hd rfl hn hbytes hcells hslots fun cA kA comp h1 h2 h3 h4 => ?_
  have hcA : cA = aC t := by
    have h5 := hK.2.2 t ht
    rw [hty] at h5
    obtain ⟨_, _, -, -, -, h6⟩ := h5
    exact Option.some.inj (h1.symm.trans h6)
  subst hcA
  have e1 : (H.push ({ cls := aC t, slots := Array.replicate n.toNatClampNeg .null, vm := .none } : Cell))[h.1]? = some { cls := aC t, slots := Array.replicate n.toNatClampNeg .null, vm := .none } := by
    rw [← hE.1]; simp
  have h7 := kk _ (hE.push (n := n.toNatClampNeg) (c0 := .inr (t, n.toNatClampNeg, fun _ => .null)) (H1 := H.push ({ cls := aC t, slots := Array.replicate n.toNatClampNeg .null, vm := .none } : Cell)) (by rw [Array.size_push, hE.1]) (fun q hq => by rw [Array.getElem?_push, if_neg (by rw [hE.1]; omega)])
    ⟨_, e1, rfl, (fun hz => by cases hz), (fun k hz => by cases hz), by simp, fun j hj => by simp [hj]⟩ (fun cell hcl => by rw [e1] at hcl; cases hcl; rfl))
  rw [← hE.1] at h7
  exact h7
end MMN
