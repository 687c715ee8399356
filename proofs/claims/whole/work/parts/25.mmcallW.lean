/-! a call: the callee is walked inside, over the caller's frame; it returns or throws -/
abbrev mm_O : Type := (Option Value) ⊕ (Nat × Nat)
def mm_oc : mm_O → Outcome
  | .inl v => .returned v
  | .inr x => .threw x.2
def mm_thrown (r : mm_O × mm_H) : Prop := match r.1 with
  | .inl _ => True
  | .inr x => r.2.2.2 x.2 = some (.inl (x.1, []))
def mm_Res (D : va_G) (aC : Nat → ClassId) (cl : List vw_C) (H0 : Heap) (s : State) (below : List Frame) (z : Nat × Nat) (r : mm_O × mm_H) (t : State) : Prop :=
  t.status = .running ∧ Ended t below (mm_oc r.1) ∧ s.WarmedH t.vm ∧ (∃ L : List Loc, (∀ q ∈ L, H0.size ≤ q.base) ∧ s.sameButNew ({ t with vm := s.vm } : State) L (z.1 - r.2.2.1.1) (z.2 - r.2.2.1.2)) ∧ mm_emb D aC cl H0 r.2 t.heap ∧ mm_thrown r ∧ r.2.2.1.1 ≤ z.1 ∧ r.2.2.1.2 ≤ z.2
theorem mm_weaken {tb : Tables} {e : Env} {f : Frame} {below : List Frame} {a b : State} (h : Steps tb e (f :: below) a b) : Steps tb e below a b := by
  obtain ⟨n, hn, w⟩ := h
  exact ⟨n, hn, fun k hk => Within.weaken (mid := [f]) (w k hk)⟩
section MMCALL
variable {p : Program} {l : Launch} {e : Env} {R R' : Room} {s : State} {m : MethodId} {args : Array Value} {below : List Frame} {meth : Method} {c : Code} {T : State} {locs : List Loc} {cells slots : Nat}
variable {D : va_G} {aC : Nat → ClassId} {cl : List vw_C} {H0 : Heap} {h : mm_H} {g : JFrame} {ig : Instr} {len : Nat} {mk : MethodId} {methk : Method} {ck : Code} {a : Array Value}
theorem mm_callRet (X : Stand p l e R s m args below meth c T locs cells slots) (hg : g.method = m) (hsize : g.locals.size = c.maxLocals) (hdg : decode c.code g.pc = .ok (ig, len))
    (hmk : T.vm.method? mk = some methk) (hck : methk.code = some ck) (hlk : methk.locks = false) (hpk : T.plainMethod mk)
    (hframes : R'.frames + 1 ≤ R.frames) (hlocals : 2 * g.monitorRoom + (g.stack.map fun v => v.category).sum + (ck.maxLocals + 11) + R'.locals ≤ R.locals) (hcells : cells + R'.cells ≤ R.cells) (hslots : slots + R'.slots ≤ R.slots)
    {v : Option Value} {h' : mm_H}
    (hcal : W p l e R' (T.calling g mk a) mk a (.java g :: below) methk ck T.heap [] 0 0 (mm_Res D aC cl H0 (T.calling g mk a) (.java g :: below) h.2.1 (.inl v, h')) (entryFrame mk a ck.maxLocals)) :
    ∃ (T' : State) (L : List Loc), Stand p l e R s m args below meth c T' (locs ++ L) (cells + (h.2.1.1 - h'.2.1.1)) (slots + (h.2.1.2 - h'.2.1.2)) ∧ (∀ q ∈ L, H0.size ≤ q.base) ∧ mm_emb D aC cl H0 h' T'.heap ∧ (h'.2.1.1 ≤ h.2.1.1 ∧ h'.2.1.2 ≤ h.2.1.2) ∧
      ∀ target, Steps p.tables e below (T'.setTop { g with pc := g.pc + len, stack := v.toList ++ g.stack }) target → ∀ acts, Steps p.tables e below (doInvoke e (T.setTop g) acts mk a).1 target := by
  obtain ⟨Y, hdo⟩ := X.into hg hsize hdg a hmk hck hlk hpk hframes hlocals hcells hslots
  obtain ⟨t, st, hrun, hend, hW, ⟨L, hL, hsame⟩, hemb, -, hm1, hm2⟩ := hcal _ (by simp [State.pushFrame, State.setFrames, State.setTop, State.modifyTopJava]) Y
  obtain ⟨T', X', hW', hsm, ht⟩ := X.outOf hg hdg hend hW hsame
  have hh : t.heap = T'.heap := by rw [ht]; simp [State.setTop, State.modifyTopJava]
  refine ⟨T', L, X', hL, by rw [← hh]; exact hemb, ⟨hm1, hm2⟩, fun target htar acts => ?_⟩
  rw [hdo acts]
  exact (mm_weaken st).trans (by rw [ht]; exact htar)
theorem mm_callThrew (X : Stand p l e R s m args below meth c T locs cells slots) (hg : g.method = m) (hsize : g.locals.size = c.maxLocals) (hdg : decode c.code g.pc = .ok (ig, len))
    (hmk : T.vm.method? mk = some methk) (hck : methk.code = some ck) (hlk : methk.locks = false) (hpk : T.plainMethod mk)
    (hframes : R'.frames + 1 ≤ R.frames) (hlocals : 2 * g.monitorRoom + (g.stack.map fun v => v.category).sum + (ck.maxLocals + 11) + R'.locals ≤ R.locals) (hcells : cells + R'.cells ≤ R.cells) (hslots : slots + R'.slots ≤ R.slots)
    {x : Nat × Nat} {h' : mm_H}
    (hcal : W p l e R' (T.calling g mk a) mk a (.java g :: below) methk ck T.heap [] 0 0 (mm_Res D aC cl H0 (T.calling g mk a) (.java g :: below) h.2.1 (.inr x, h')) (entryFrame mk a ck.maxLocals)) :
    ∃ (T' : State) (L : List Loc), Stand p l e R s m args below meth c T' (locs ++ L) (cells + (h.2.1.1 - h'.2.1.1)) (slots + (h.2.1.2 - h'.2.1.2)) ∧ (∀ q ∈ L, H0.size ≤ q.base) ∧ mm_emb D aC cl H0 h' T'.heap ∧ (h'.2.1.1 ≤ h.2.1.1 ∧ h'.2.1.2 ≤ h.2.1.2) ∧ h'.2.2 x.2 = some (.inl (x.1, [])) ∧
      ∀ target, Steps p.tables e below ((T'.setTop g).pushFrame (.throwing x.2)) target → ∀ acts, Steps p.tables e below (doInvoke e (T.setTop g) acts mk a).1 target := by
  obtain ⟨Y, hdo⟩ := X.into hg hsize hdg a hmk hck hlk hpk hframes hlocals hcells hslots
  obtain ⟨t, st, hrun, hend, hW, ⟨L, hL, hsame⟩, hemb, hth, hm1, hm2⟩ := hcal _ (by simp [State.pushFrame, State.setFrames, State.setTop, State.modifyTopJava]) Y
  obtain ⟨T', X', hW', hsm, ht⟩ := X.outOfThrown hg hend hW hsame
  have hh : t.heap = T'.heap := by rw [ht]; exact Stand.throwing_heap T' g x.2
  refine ⟨T', L, X', hL, by rw [← hh]; exact hemb, ⟨hm1, hm2⟩, hth, fun target htar acts => ?_⟩
  rw [hdo acts]
  exact (mm_weaken st).trans (by rw [ht]; exact htar)
end MMCALL
/-- what the tables say of a method: where it is, its code, its handlers -/
def mm_Mt (y : MethodName) (bytes : ByteArray) (nl : Nat) (ret : Option FieldType) (hh : List (Nat × Nat × Nat × Nat)) (U : State) (mk : MethodId) (methk : Method) (ck : Code) : Prop :=
  U.methodNamed? y = some mk ∧ U.vm.method? mk = some methk ∧ methk.code = some ck ∧ ck.code = bytes ∧ ck.maxLocals = nl ∧ methk.sig.returnType = ret ∧ methk.locks = false ∧
    ck.exceptionTable.toList.map (fun h => (h.startPc, h.endPc, h.handlerPc, h.catchType)) = hh ∧ parseMethodDescriptor y.desc = some methk.sig
def mm_cw (y : MethodName) (bytes : ByteArray) (nl : Nat) (ret : Option FieldType) (hh : List (Nat × Nat × Nat × Nat)) : Cond := match hh with
  | [] => .code y bytes nl ret
  | x :: r => .codeWith y bytes nl ret (x :: r)
theorem mm_Mt.of {y : MethodName} {bytes : ByteArray} {nl : Nat} {ret : Option FieldType} {hh : List (Nat × Nat × Nat × Nat)} {U : State} {A : Array Value} (h : (mm_cw y bytes nl ret hh).before A U = true) : ∃ mk methk ck, mm_Mt y bytes nl ret hh U mk methk ck := by
  cases hh with
  | nil =>
    have h' : (Cond.code y bytes nl ret).before A U = true := h
    obtain ⟨mk, hn⟩ := Cond.code_named h'
    obtain ⟨methk, ck, h1, h2, h3, h4, h5, h6, h7, h8⟩ := Cond.code_spec hn h'
    refine ⟨mk, methk, ck, hn, h1, h2, h3, h4, h5, h6, ?_, h8⟩
    have : ck.exceptionTable.toList = [] := by simpa using h7
    rw [this]
    rfl
  | cons x r =>
    have h' : (Cond.codeWith y bytes nl ret (x :: r)).before A U = true := h
    obtain ⟨mk, methk, ck, hn, h1, h2, h3, h4, h5, h6, h7, h8⟩ := Cond.codeWith_spec h'
    exact ⟨mk, methk, ck, hn, h1, h2, h3, h4, h6, h7, h5, h8⟩
