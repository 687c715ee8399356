/-! Throwable's two static fields, which a throw reads: they lie below the law's first heap size and nobody writes them -/
def mm_Z1 (C n d : String) (U : State) (H0 : Heap) : Prop := ∃ (c : ClassId) (k : Class) (i : Nat) (f : Field) (a : Nat) (cell : Cell) (v : Value), U.vm.findClass C = some c ∧ U.fieldFound? C n d = some (c, k, i, f) ∧ f.isStatic = true ∧ k.statics = some a ∧ a < H0.size ∧ H0[a]? = some cell ∧ cell.vm.isStatics = true ∧ cell.cls = c ∧ f.slot < cell.slots.size ∧ k.staticTypes[f.slot]? = some f.type ∧ cell.slots[f.slot]? = some v ∧ v.isRef = true
theorem mm_Z1.moved {C n d : String} {u U : State} {H0 : Heap} (hvm : u.vm.Alike U.vm) (h : mm_Z1 C n d u H0) : mm_Z1 C n d U H0 := by
  obtain ⟨c, k, i, f, a, cell, v, h1, h2, h3, h4, h5, h6, h7, h8, h9, h10, h11, h12⟩ := h
  obtain ⟨k', hi', he⟩ := State.fieldFound?_setVm hvm h2
  exact ⟨c, k', i, f, a, cell, v, by rw [hvm.findClass]; exact h1, hi', h3, by rw [he]; exact h4, h5, h6, h7, h8, h9, by rw [he]; exact h10, h11, h12⟩
theorem mm_Z1.lays {C n d : String} {U : State} {H0 : Heap} {A : Array Value} (hq : ∀ q : Nat, q < H0.size → U.heap[q]? = H0[q]?) (h : mm_Z1 C n d U H0) : (Cond.laysStatic C n d).before A U = true := by
  obtain ⟨c, k, i, f, a, cell, v, h1, h2, h3, h4, h5, h6, h7, h8, h9, h10, h11, h12⟩ := h
  show (Cond.laysStatic C n d).holds A U none U [] = true
  exact Cond.laysStatic_of h1 h2 h3 h4 (by rw [hq a h5]; exact h6) h7 h8 h9 h10
theorem mm_Z1.ref {C n d : String} {U : State} {H0 : Heap} {A : Array Value} (hq : ∀ q : Nat, q < H0.size → U.heap[q]? = H0[q]?) (h : mm_Z1 C n d U H0) : (Cond.isRef (.static C n d)).before A U = true := by
  obtain ⟨c, k, i, f, a, cell, v, h1, h2, h3, h4, h5, h6, h7, h8, h9, h10, h11, h12⟩ := h
  have h6' : U.heap[a]? = some cell := by rw [hq a h5]; exact h6
  have he : (Term.static C n d).eval A U none [] U = some v := by
    simp [Term.eval, State.fieldNamed?, h2, h3, h4, h6', h7, h11]
  simp only [Cond.before, Cond.holds, Cond.value, he]
  cases v <;> simp_all [Value.isRef]
theorem mm_Z1.of {C n d : String} {s : State} {A : Array Value} (hl : (Cond.laysStatic C n d).before A s = true) (h : (Cond.isRef (.static C n d)).before A s = true) : mm_Z1 C n d s s.heap := by
  obtain ⟨c, k, i, f, a, cell, h1, h2, h3, h4, h5, h6, h7, h8, h9⟩ := Cond.laysStatic_spec hl
  obtain ⟨u, hu⟩ := Cond.staticRefV h2 h3 h4 h5 h6 h
  exact ⟨c, k, i, f, a, cell, u.v, h1, h2, h3, h4, (Array.getElem?_eq_some_iff.mp h5).1, h5, h6, h7, h8, h9, hu, u.2⟩
def mm_Zs (U : State) (H0 : Heap) : Prop := mm_Z1 "java/lang/Throwable" "UNASSIGNED_STACK" "[Ljava/lang/StackTraceElement;" U H0 ∧ mm_Z1 "java/lang/Throwable" "SUPPRESSED_SENTINEL" "Ljava/util/List;" U H0
theorem mm_Zs.moved {u U : State} {H0 : Heap} (hvm : u.vm.Alike U.vm) (h : mm_Zs u H0) : mm_Zs U H0 := ⟨h.1.moved hvm, h.2.moved hvm⟩
