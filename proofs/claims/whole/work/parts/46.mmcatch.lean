/-! a handler of the method's own table, whose class may not have been resolved yet -/
theorem mm_go_transfer {E : CtlPost} {e : Env} {d : Bool} {acts : List Action} {S : State} {f : JFrame} {a : Addr} {Q : Handler → Pre} {x : ExceptionTableEntry} {t : List ExceptionTableEntry} {c : ClassId} {vm' : Vm} (hx : covers x f.pc = true) (h0 : x.catchType ≠ 0)
    (hg : (Jvm.resolveClass f.method.cls x.catchType).Gives e.toSetting S.vm (.ok c) vm') (hr : vm'.classReady f.method.cls x.catchType c) (hsz : vm'.classes.size ≤ S.vm.classes.size) :
    wp (findHandler.go f a (x :: t)) Q E e d acts S ↔ wp (findHandler.go f a (x :: t)) Q E e d acts (S.setVm vm') := by
  simp only [covers] at hx
  obtain ⟨ha, ht⟩ := hg.op (op := VmOp.resolveClass f.method.cls x.catchType) rfl
  obtain ⟨k, hkd, hres⟩ := hr
  obtain ⟨ha', ht'⟩ := resolveClass_memo e hkd hres
  simp [findHandler.go, hx, h0, ha, ht, hsz, ha', ht', VmOp.dirties, VmOp.acts]
  exact Iff.rfl
section MMCATCH
variable {p : Program} {l : Launch} {e : Env} {R : Room} {s : State} {m : MethodId} {args : Array Value} {below : List Frame} {meth : Method} {c : Code} {T : State} {locs : List Loc} {cells slots : Nat}
variable {pc d k : Nat} {ls : Array Slot} {rest : List Value} {D : va_G} {aC : Nat → ClassId} {H0 : Heap} {h : mm_H} {z : Nat × Nat}
theorem mm_goFind (hpl : e.platform.magicAccessors = ({} : Platform).magicAccessors) (hts : ∀ w ∈ tb_Ts, w.before args s = true) (hown : s.vm.findClass (t_on (t_o k)) = some m.cls) (hK : mm_Kn D aC t_cl s) (hapart : ∀ x y : Nat, 5 ≤ x → x ≠ y → x < t_cl.length → y < t_cl.length → 5 ≤ y → s.vm.assignable (D.1 x) (D.1 y) = false)
    {f : JFrame} (hf : f.method = m) {a : Addr} {cell : Cell} {x pc' : Nat} (hx5 : 5 ≤ x) (hxl : x < t_cl.length) (hcls : cell.cls = D.1 x) (hvm : cell.vm = .none) :
    ∀ (tl : List ExceptionTableEntry) (hh hx : List (Nat × Nat × Nat × Nat)), tl.map (fun h => (h.startPc, h.endPc, h.handlerPc, h.catchType)) = hh → mm_hrel (t_o k) hh hx → (∀ q ∈ hx, 5 ≤ q.2.2.2) → mm_find hx f.pc x = some pc' →
      ∀ S : State, s.WarmedH S.vm → S.heap[a]? = some cell → ∃ vm' : Vm, s.WarmedH vm' ∧ ∀ (Q : Handler → Pre) (E : CtlPost) (d : Bool) (acts : List Action), wp (findHandler.go f a tl) Q E e d acts S ↔ Q (.found pc') d acts (S.setVm vm') := by
  intro tl
  induction tl with
  | nil =>
    intro hh hx e1 hrel h5 hfind S hW hc
    subst e1
    cases hx with
    | nil => cases hfind
    | cons q r => exact hrel.elim
  | cons y tl ih =>
    intro hh hx e1 hrel h5 hfind S hW hc
    subst e1
    cases hx with
    | nil => exact hrel.elim
    | cons q r =>
      obtain ⟨a', b', t', x'⟩ := q
      obtain ⟨r1, r2, r3, r4, ⟨qc, r5, r6⟩, r7⟩ := (show y.startPc = a' ∧ y.endPc = b' ∧ y.handlerPc = t' ∧ y.catchType ≠ 0 ∧ (∃ q : vw_C, t_cl[x']? = some q ∧ Cond.classLink (t_on (t_o k)) y.catchType q.1 ∈ tb_Ts) ∧ mm_hrel (t_o k) (tl.map (fun h => (h.startPc, h.endPc, h.handlerPc, h.catchType))) r from hrel)
      subst r1; subst r2; subst r3
      have h5r : ∀ q ∈ r, 5 ≤ q.2.2.2 := fun q hq => h5 q (List.mem_cons_of_mem _ hq)
      have h5x : 5 ≤ x' := h5 _ List.mem_cons_self
      have hlx : x' < t_cl.length := (List.getElem?_eq_some_iff.mp r5).1
      cases hcov : covers y f.pc with
      | false =>
        have hf2 : mm_find r f.pc x = some pc' := by
          unfold mm_find at hfind
          simp only [covers] at hcov
          have : (Nat.ble y.startPc f.pc && (Nat.ble (f.pc + 1) y.endPc && Nat.beq x' x)) = false := by
            cases hb : (Nat.ble y.startPc f.pc && (Nat.ble (f.pc + 1) y.endPc && Nat.beq x' x)) with
            | false => rfl
            | true =>
              simp only [Bool.and_eq_true] at hb
              have g1 := Nat.le_of_ble_eq_true hb.1
              have g2 : f.pc < y.endPc := Nat.le_of_ble_eq_true hb.2.1
              rw [decide_eq_true g1, decide_eq_true g2] at hcov
              cases hcov
          rw [this] at hfind
          exact hfind
        obtain ⟨vm', w1, w2⟩ := ih _ r rfl r7 h5r hf2 S hW hc
        exact ⟨vm', w1, fun Q E d acts => (W.findHandler_go_skip hcov).trans (w2 Q E d acts)⟩
      | true =>
        obtain ⟨cc, hfc, hcl⟩ := Cond.classLink_spec hown (hts _ r6) e.platform hpl
        have hcc : cc = D.1 x' := Option.some.inj (hfc.symm.trans (hK.1 x' qc r5).2.1)
        subst hcc
        obtain ⟨hg1, hwarm1, hready1⟩ := State.classEntry (e := e) hW hcl
        have hsz1 : (S.vm.noted m.cls y.catchType (.cls (D.1 x'))).classes.size ≤ S.vm.classes.size := by simp
        generalize S.vm.noted m.cls y.catchType (.cls (D.1 x')) = vm1 at hg1 hwarm1 hready1 hsz1
        rw [← hf] at hg1 hready1
        have hal : s.vm.Alike vm1 := hwarm1.alike
        have hk1 : ∃ k, (S.setVm vm1).vm.classes[cell.cls]? = some k := by
          obtain ⟨-, kx, hkx, -⟩ := (hK.1 x _ (List.getElem?_eq_getElem hxl)).2
          obtain ⟨k', hk', -⟩ := hal.2.2 _ _ hkx
          exact ⟨k', by rw [hcls]; exact hk'⟩
        have hk2 : ∃ k, (S.setVm vm1).vm.classes[D.1 x']? = some k := by
          obtain ⟨-, kx, hkx, -⟩ := (hK.1 x' _ r5).2
          obtain ⟨k', hk', -⟩ := hal.2.2 _ _ hkx
          exact ⟨k', hk'⟩
        have hasg : (S.setVm vm1).vm.assignable cell.cls (D.1 x') = s.vm.assignable (D.1 x) (D.1 x') := by rw [hcls]; exact hal.assignable _ _
        have hobj : ∀ k, cell.vm ≠ .statics k := fun k hz => by rw [hvm] at hz; cases hz
        by_cases hxx : x' = x
        · subst hxx
          have hpc : pc' = y.handlerPc := by
            unfold mm_find at hfind
            simp only [covers, Bool.and_eq_true, decide_eq_true_eq] at hcov
            have : (Nat.ble y.startPc f.pc && (Nat.ble (f.pc + 1) y.endPc && Nat.beq x' x')) = true := by
              rw [Nat.ble_eq_true_of_le hcov.1, Nat.ble_eq_true_of_le hcov.2, mm_beq_self]; rfl
            rw [this] at hfind
            exact (Option.some.inj hfind).symm
          subst hpc
          have hfit : s.vm.assignable (D.1 x') (D.1 x') = true := va_assign (hK.1 x' _ r5).2
          exact ⟨vm1, hwarm1, fun Q E d acts => by rw [mm_go_transfer hcov r4 hg1 hready1 hsz1, W.findHandler_go_class (s := S.setVm vm1) hcov r4 hready1 hc hobj hk1 hk2, hasg, if_pos hfit]⟩
        · have hf2 : mm_find r f.pc x = some pc' := by
            unfold mm_find at hfind
            rw [mm_beq_ne hxx, Bool.and_false, Bool.and_false] at hfind
            exact hfind
          obtain ⟨vm', w1, w2⟩ := ih _ r rfl r7 h5r hf2 (S.setVm vm1) hwarm1 hc
          exact ⟨vm', w1, fun Q E d acts => by
            rw [mm_go_transfer hcov r4 hg1 hready1 hsz1, W.findHandler_go_class (s := S.setVm vm1) hcov r4 hready1 hc hobj hk1 hk2, hasg, if_neg (by rw [hapart x x' hx5 (Ne.symm hxx) hxl hlx h5x]; decide)]
            exact w2 Q E d acts⟩
theorem mm_stepCatch {e : Env} {S : State} {a : Addr} {f : JFrame} {r : List Frame} {pc : Nat} {vm' : Vm} (hfind : ∀ (Q : Handler → Pre) (E : CtlPost) (d : Bool) (acts : List Action), wp (findHandler f a) Q E e d acts S ↔ Q (.found pc) d acts (S.setVm vm')) :
    (stepThrowing e S a (.java f :: r)).Is ((S.setVm vm').setFrames (.java { f with pc := pc, stack := [.ref a] } :: r)) [] := by
  simp only [stepThrowing, searchFrame, vmDo]
  generalize hr : Sem.go _ e false [] S = res
  obtain ⟨as, rfl, ha⟩ := Sem.eq_ok_of hr (a := Handler.found pc) (s' := S.setVm vm') (acts' := []) (by simp [hfind _ _ _ _])
  exact ⟨rfl, ha⟩
theorem mm_catch_T (C : mm_Cx p D aC H0 R s m meth c d k z) (X : Stand p l e R s m args below meth c T locs cells slots) (hE : mm_emb D aC t_cl H0 h T.heap) {x : Nat × Nat} {pc' : Nat} (hfind : mm_find (t_hx k) pc x.1 = some pc') (hex : h.2.2 x.2 = some (.inl (x.1, []))) :
    ∃ vm2, Stand p l e R s m args below meth c (T.setVm vm2) locs cells slots ∧ ∀ target, Steps p.tables e below ((T.setVm vm2).setTop (F0 m pc' ls [.ref x.2])) target → Steps p.tables e below ((T.setTop (F0 m pc ls rest)).pushFrame (.throwing x.2)) target := by
  have hown := C.own
  have hts := C.hts (args := args)
  obtain ⟨hx, hwd, hK, ⟨hnm, hme, hco, hb, hml, hrt, hlk, hhh, hsig⟩, -⟩ := id C
  have hpl : e.platform.magicAccessors = ({} : Platform).magicAccessors := by rw [X.admits.platform]
  obtain ⟨⟨rv, hrv, cell, v1, v2, v3, -⟩, -⟩ := hE.2.1 _ _ hex
  have hx5 : 5 ≤ x.1 := tb_hx5 hfind
  have hal := X.warmed.alike
  obtain ⟨vm2, w1, w2⟩ := mm_goFind (f := F0 m pc ls rest) (a := x.2) (pc' := pc') hpl hts hown hK (tb_apart hK hwd) rfl hx5 (List.getElem?_eq_some_iff.mp hrv).1 v2 v3 _ _ _ hhh (tb_hx k) (tb_hxs k) hfind ((T.setTop (F0 m pc ls rest)).pushFrame (.throwing x.2)) (by rw [Stand.throwing_vm]; exact X.warmed) (by rw [Stand.throwing_heap]; exact v1)
  refine ⟨vm2, X.noted w1, fun target hrest => ?_⟩
  have hA : At T (F0 m pc ls rest).method c below := X.here
  obtain ⟨hgo, hw⟩ := hA.throwing x.2
  refine Steps.head hgo hw ?_
  have hme' : ((T.setTop (F0 m pc ls rest)).pushFrame (.throwing x.2)).vm.method? (F0 m pc ls rest).method = some meth := by rw [Stand.throwing_vm]; exact X.method'
  rw [stepThread_throwing (frames_entered hA.top _), (mm_stepCatch (S := (T.setTop (F0 m pc ls rest)).pushFrame (.throwing x.2)) (vm' := vm2) (pc := pc') (fun Q E d acts => (W.findHandler_eq hme' X.code).trans (w2 Q E d acts))).1]
  obtain ⟨g₀, hg⟩ := Option.isSome_iff_exists.mp hA.top
  obtain ⟨r, hr⟩ := State.topJava?_eq_some.mp hg
  have hr2 : (T.setVm vm2).frames = .java g₀ :: r := hr
  rw [State.setTop_of_frames _ hr2] at hrest
  have e1 : (((T.setTop (F0 m pc ls rest)).pushFrame (.throwing x.2)).setVm vm2).setFrames (.java { F0 m pc ls rest with pc := pc', stack := [.ref x.2] } :: T.frames.tail) = (T.setVm vm2).setFrames (.java (F0 m pc' ls [.ref x.2]) :: r) := by
    rw [hr]
    rw [State.pushFrame, State.setTop_of_frames _ hr, State.setFrames_setFrames]
    show ((T.setFrames _).setVm vm2).setFrames _ = _
    rw [show ∀ fs, (T.setFrames fs).setVm vm2 = (T.setVm vm2).setFrames fs from fun _ => rfl, State.setFrames_setFrames]
    rfl
  rw [e1]
  exact hrest
end MMCATCH
