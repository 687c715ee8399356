theorem mm_split_ok : ∀ (n : Nat) (st as r : List Value), mm_split n st = some (as, r) → st = as.reverse ++ r ∧ as.length = n
  | 0, st, as, r, h => by
    cases h
    exact ⟨rfl, rfl⟩
  | n + 1, [], as, r, h => by cases h
  | n + 1, v :: st, as, r, h => by
    unfold mm_split at h
    split at h
    · rename_i as1 r1 h1
      cases h
      obtain ⟨h2, h3⟩ := mm_split_ok n st _ _ h1
      refine ⟨?_, by simp [h3]⟩
      rw [h2]
      simp
    · cases h
theorem mm_inv_len {k k' len : Nat} {i : Instr} {st as rest : List Value} {h : mm_H} (hr : mm_inv k i len st h = some (k', as, rest)) : len = 3 := by
  unfold mm_inv at hr
  split at hr
  · rfl
  · rfl
  · rfl
  · cases hr
section MMI
variable {p : Program} {l : Launch} {e : Env} {R : Room} {s : State} {m : MethodId} {args : Array Value} {below : List Frame} {meth : Method} {c : Code} {T : State} {locs : List Loc} {cells slots : Nat}
variable {pc len d k k' : Nat} {ls : Array Slot} {st as rest : List Value} {i : Instr} {D : va_G} {aC : Nat → ClassId} {H0 : Heap} {h : mm_H} {z : Nat × Nat}
set_option maxHeartbeats 4000000 in
theorem mm_inv_T (C : mm_Cx p D aC H0 R s m meth c d k z) (X : Stand p l e R s m args below meth c T locs cells slots) (hE : mm_emb D aC t_cl H0 h T.heap) (hd : decode (t_b k) pc = .ok (i, len)) (hr : mm_inv k i len st h = some (k', as, rest)) :
    ∃ (mk : MethodId) (methk : Method) (ck : Code) (vm' : Vm), mm_Mt (t_y k') (t_b k') (t_nl k') (t_rt k') (t_hh k') s mk methk ck ∧ Stand p l e R s m args below meth c (T.setVm vm') locs cells slots ∧ (rest.map fun v => v.category).sum ≤ 12 ∧ (lg_sl as).length ≤ t_nl k' ∧ t_nl k' ≤ 13 ∧ plainFor (t_y k') = true ∧
      ∀ target, (∀ acts, Steps p.tables e below (doInvoke e ((T.setVm vm').setTop (F0 m pc ls rest)) acts mk as.toArray).1 target) → Steps p.tables e below (T.setTop (F0 m pc ls st)) target := by
  have hown := C.own
  have hts := C.hts (args := args)
  obtain ⟨hx, -, hK, ⟨hnm, hme, hco, hb, hml, hrt, hlk, hhh, hsig⟩, -⟩ := id C
  unfold mm_inv at hr
  split at hr
  · split at hr
    · rename_i k1 np hm
      split at hr
      · rename_i as1 r1 hs
        obtain ⟨h1, h2⟩ := mm_cond2 hr
        cases h2
        simp only [Bool.and_eq_true] at h1
        obtain ⟨hst, hlen⟩ := mm_split_ok _ _ _ _ hs
        obtain ⟨⟨hlink, hcw, hnp, hmh, hpl, hnl⟩, hw1, hw2⟩ := tb_mth0 hm
        obtain ⟨mk, methk, ck, hM⟩ := mm_Mt.of (hts _ hcw)
        obtain ⟨g1, g2, g3, g4, g5, g6, g7, g8, g9⟩ := id hM
        have hstat : methk.isStatic = true := Cond.static_spec g1 g2 (hts _ hw1)
        obtain ⟨kP, hkP, -⟩ := className_of_methodNamed g1
        have hini : kP.init = .initialized := Cond.initialized_spec (findClass_of_methodNamed g1) hkP (hts _ hw2)
        have hl2 : as.length = methk.sig.parameters.length := by
          rw [g9] at hnp
          exact hlen.trans (Option.some.inj hnp).symm
        obtain ⟨vm1, X1, hst1⟩ := X.invokestatic hx hown (hts _ hlink) g1 g2 hstat hkP hini hmh (g := F0 m pc ls st) rfl (argsL := as) (rest := rest) hl2 hst (by rw [hb]; exact hd)
        exact ⟨mk, methk, ck, vm1, hM, X1, mm_sum12 h1.1, Nat.le_of_ble_eq_true h1.2, hnl, hpl, hst1⟩
      · cases hr
    · cases hr
  · split at hr
    · rename_i k1 np hm
      split at hr
      · rename_i as1 b r1 hs
        split at hr
        · rename_i ci fs hbv
          obtain ⟨h1, h2⟩ := mm_cond2 hr
          cases h2
          simp only [Bool.and_eq_true] at h1
          obtain ⟨h3, h1⟩ := h1
          have e3 := Nat.eq_of_beq_eq_true h3
          obtain ⟨hst, hlen⟩ := mm_split_ok _ _ _ _ hs
          obtain ⟨⟨hlink, hcw, hnp, hmh, hpl, hnl⟩, hw1, hw2, Cn, T0, N0, hc, hcn⟩ := tb_mth1 hm
          obtain ⟨mk, methk, ck, hM⟩ := mm_Mt.of (hts _ hcw)
          obtain ⟨g1, g2, g3, g4, g5, g6, g7, g8, g9⟩ := id hM
          obtain ⟨mk', methM, hn', hm', hstM, habM⟩ := Cond.instanceMethod_spec (hts _ hw1)
          cases g1.symm.trans hn'
          cases g2.symm.trans hm'
          obtain ⟨⟨rv, hrv, cellB, v1, v2, v3, -⟩, -⟩ := hE.2.1 _ _ hbv
          have hcls : s.vm.findClass (t_y k').cls = some cellB.cls := by
            rw [v2, e3, ← hcn]
            exact (hK.1 (t_rc k') _ hc).2.1
          obtain ⟨c2, r2, m2, q1, q2, q3, q4, kP, hkP, hkPi⟩ := Cond.selects_spec (hts _ hw2)
          cases hcls.symm.trans q1
          cases (State.methodFound?_of_named g1 hmh).symm.trans q2
          cases g1.symm.trans q3
          have hselP : selectMethod e.platform s.vm cellB.cls mk = .method mk := by rw [Launch.admits_selectMethod X.admits]; exact q4
          have hl2 : as1.length = methk.sig.parameters.length := by
            rw [g9] at hnp
            exact hlen.trans (Option.some.inj hnp).symm
          obtain ⟨vm1, X1, hst1⟩ := X.invokevirtual hx hown (hts _ hlink) g1 g2 hstM hkP hkPi hmh (a := b) (cell := cellB) v1 (fun z hz => by rw [v3] at hz; cases hz) hselP g2 habM hkP hkPi (g := F0 m pc ls st) rfl (argsL := as1) (rest := rest) hl2 hst (by rw [hb]; exact hd)
          exact ⟨mk, methk, ck, vm1, hM, X1, mm_sum12 h1.1, Nat.le_of_ble_eq_true h1.2, hnl, hpl, hst1⟩
        · cases hr
      · cases hr
    · cases hr
  · split at hr
    · rename_i k1 np hm
      split at hr
      · rename_i as1 b r1 hs
        obtain ⟨h1, h2⟩ := mm_cond2 hr
        cases h2
        simp only [Bool.and_eq_true] at h1
        obtain ⟨hst, hlen⟩ := mm_split_ok _ _ _ _ hs
        obtain ⟨⟨hlink, hcw, hnp, hmh, hpl, hnl⟩, hw1, hin, hhh', hrt'⟩ := tb_mth2 hm
        have hcw' := hcw
        rw [hhh', hrt'] at hcw'
        obtain ⟨mk, methk, ck, hM⟩ := mm_Mt.of (hts _ hcw)
        obtain ⟨g1, g2, g3, g4, g5, g6, g7, g8, g9⟩ := id hM
        have hplt : e.platform.magicAccessors = ({} : Platform).magicAccessors := by rw [X.admits.platform]
        obtain ⟨mk', methM, cM, kP, vm1, hn', hm', -, -, -, -, hkP, -, hW1, hst1⟩ := Steps.initColdArgs (tb := p.tables) (e := e) X.here hx X.warmed hplt hown hin hmh (hts _ hlink) (hts _ hw1) (hts _ hcw') (f := F0 m pc ls st) rfl
          (argsL := as1) (a := b) (rest := rest) (fun sig hsg => by rw [hsg] at hnp; exact hlen.trans (Option.some.inj hnp).symm) hst (by rw [hb]; exact hd)
        cases g1.symm.trans hn'
        exact ⟨mk, methk, ck, vm1, hM, X.noted hW1, mm_sum12 h1.1, Nat.le_of_ble_eq_true h1.2, hnl, hpl, hst1⟩
      · cases hr
    · cases hr
  · cases hr
end MMI
