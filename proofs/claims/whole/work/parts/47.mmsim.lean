section MMSIM
variable {p : Program} {l : Launch} {e : Env} {D : va_G} {aC : Nat → ClassId} {H0 : Heap}
theorem mm_Mt.moved {y : MethodName} {b : ByteArray} {n : Nat} {rt : Option FieldType} {hh : List (Nat × Nat × Nat × Nat)} {s U : State} {mk : MethodId} {mt : Method} {ck : Code} (hW : s.vm.Alike U.vm) (hn : U.methodNamed? y = some mk) (h : mm_Mt y b n rt hh s mk mt ck) : mm_Mt y b n rt hh U mk mt ck := by
  obtain ⟨g1, g2, g3⟩ := h
  exact ⟨hn, by rw [hW.method?]; exact g2, g3⟩
set_option maxHeartbeats 8000000 in
/-- WHAT THE MINI MACHINE ANSWERS, THE MACHINE DOES -/
theorem mm_sim (hltr : l.stackTraces = false) : ∀ (n d k pc : Nat) (lv : mm_L) (st : List Value) (h : mm_H) (r : mm_O × mm_H), mm_exec n d k pc lv st h = some r →
    ∀ (R : Room) (s : State) (m : MethodId) (args : Array Value) (below : List Frame) (meth : Method) (c : Code) (z : Nat × Nat), mm_Cx p D aC H0 R s m meth c d k z →
    ∀ (H : Heap) (locs : List Loc) (cells slots : Nat) (ls : Array Slot), lv_has ls (t_nl k) lv → mm_Ok D aC H0 z h H locs cells slots →
      W p l e R s m args below meth c H locs cells slots (mm_Res D aC t_cl H0 s below z r) (F0 m pc ls st) := by
  intro n
  induction n with
  | zero => intro d k pc lv st h r hex; cases hex
  | succ n ih =>
    intro d k pc lv st h r hex R s m args below meth c z C H locs cells slots ls hl O
    unfold mm_exec at hex
    split at hex
    · cases hex
    · rename_i i len hcod
      have hd := tb_cod hcod
      split at hex
      · rename_i pc' lv' st' h' hstp
        exact mm_step_W C O hl hd hstp (fun ls' H1 L cells' slots' hl' O' => ih d k pc' lv' st' h' r hex R s m args below meth c z C H1 L cells' slots' ls' hl' O')
      · split at hex
        · rename_i v hrt
          cases hex
          exact mm_ret_W C O hd hrt
        · split at hex
          · rename_i x h' hth
            cases hex
            exact mm_thr_W hltr C O hl hd hth
          · split at hex
            · cases hex
            · rename_i k' as rest hinv
              have hlen := mm_inv_len hinv
              subst hlen
              rcases d with _ | d'
              · cases hex
              · simp only at hex
                intro T hT X
                subst hT
                obtain ⟨mk, methk, ck, vm', hM, X1, hr16, hlgs, hnl, hpl, hgo⟩ := mm_inv_T (ls := ls) C X O.1 hd hinv
                obtain ⟨hx, hwd, hK, hMm, hRf, hRl, hRc, hRs, hZ⟩ := id C
                obtain ⟨hE, hL, hz1, hz2, ec, es⟩ := id O
                have hal : s.vm.Alike (T.setVm vm').vm := X1.warmed.alike
                have hmk : (T.setVm vm').vm.method? mk = some methk := by rw [hal.method?]; exact hM.2.1
                have hnk : (T.setVm vm').methodNamed? (t_y k') = some mk := X1.named hM.1
                have hpk : (T.setVm vm').plainMethod mk := State.plainMethod.of_named hpl hnk hmk
                have hsum := hr16
                have hd1 : decode c.code (F0 m pc ls rest).pc = .ok (i, 3) := by rw [hMm.2.2.2.1]; exact hd
                have hsz : (F0 m pc ls rest).locals.size = c.maxLocals := by rw [hMm.2.2.2.2.1]; exact hl.1
                -- the callee's walk
                have C' : mm_Cx p D aC H0 { frames := d', cells := h.2.1.1, slots := h.2.1.2, locals := 36 * d' } ((T.setVm vm').calling (F0 m pc ls rest) mk as.toArray) mk methk ck d' k' h.2.1 :=
                  ⟨hx, mm_Wd.moved (U := (T.setVm vm').calling (F0 m pc ls rest) mk as.toArray) X1.warmed hwd, mm_Kn.moved (U := (T.setVm vm').calling (F0 m pc ls rest) mk as.toArray) hal hK, mm_Mt.moved (U := (T.setVm vm').calling (F0 m pc ls rest) mk as.toArray) hal hnk hM, Nat.le_refl _, Nat.le_refl _, Nat.le_refl _, Nat.le_refl _, mm_Zs.moved (U := (T.setVm vm').calling (F0 m pc ls rest) mk as.toArray) hal hZ⟩
                have hlv := lv_entry as (n := t_nl k') hlgs
                have hwalk : ∀ r', mm_exec n d' k' 0 (lv_args 0 as) [] h = some r' → W p l e { frames := d', cells := h.2.1.1, slots := h.2.1.2, locals := 36 * d' } ((T.setVm vm').calling (F0 m pc ls rest) mk as.toArray) mk as.toArray (.java (F0 m pc ls rest) :: below) methk ck (T.setVm vm').heap [] 0 0 (mm_Res D aC t_cl H0 ((T.setVm vm').calling (F0 m pc ls rest) mk as.toArray) (.java (F0 m pc ls rest) :: below) h.2.1 r') (entryFrame mk as.toArray ck.maxLocals) := by
                  intro r' hr'
                  rw [hM.2.2.2.2.1, lg_entry_eq]
                  exact ih d' k' 0 (lv_args 0 as) [] h r' hr' _ _ mk as.toArray _ methk ck h.2.1 C' _ [] 0 0 _ hlv ⟨hE, (fun q hq => by cases hq), Nat.le_refl _, Nat.le_refl _, by omega, by omega⟩
                have hroom1 : d' + 1 ≤ R.frames := hRf
                have hroom2 : 2 * (F0 m pc ls rest).monitorRoom + ((F0 m pc ls rest).stack.map fun v => v.category).sum + (ck.maxLocals + 11) + 36 * d' ≤ R.locals := by
                  rw [hM.2.2.2.2.1]
                  show 2 * 0 + (rest.map fun v => v.category).sum + (t_nl k' + 11) + 36 * d' ≤ R.locals
                  omega
                split at hex
                · cases hex
                · rename_i v h' hcal
                  obtain ⟨T', L, X', hL', hE', ⟨hb1, hb2⟩, hst⟩ := mm_callRet (R' := { frames := d', cells := h.2.1.1, slots := h.2.1.2, locals := 36 * d' }) X1 rfl hsz hd1 hmk hM.2.2.1 hM.2.2.2.2.2.2.1 hpk hroom1 hroom2 (by show cells + h.2.1.1 ≤ R.cells; omega) (by show slots + h.2.1.2 ≤ R.slots; omega) (hwalk _ hcal)
                  obtain ⟨t, st1, hres⟩ := ih (d' + 1) k (pc + 3) lv (v.toList ++ rest) h' r hex R s m args below meth c z C T'.heap (locs ++ L) _ _ ls hl ⟨hE', fun q hq => (List.mem_append.mp hq).elim (hL q) (hL' q), by omega, by omega, rfl, rfl⟩ T' rfl (by
                    have e1 : cells + (h.2.1.1 - h'.2.1.1) = z.1 - h'.2.1.1 := by omega
                    have e2 : slots + (h.2.1.2 - h'.2.1.2) = z.2 - h'.2.1.2 := by omega
                    rw [e1, e2] at X'
                    exact X')
                  exact ⟨t, hgo t (hst t st1), hres⟩
                · rename_i x h' hcal
                  obtain ⟨T', L, X', hL', hE', ⟨hb1, hb2⟩, hex1, hst⟩ := mm_callThrew (R' := { frames := d', cells := h.2.1.1, slots := h.2.1.2, locals := 36 * d' }) X1 rfl hsz hd1 hmk hM.2.2.1 hM.2.2.2.2.2.2.1 hpk hroom1 hroom2 (by show cells + h.2.1.1 ≤ R.cells; omega) (by show slots + h.2.1.2 ≤ R.slots; omega) (hwalk _ hcal)
                  have e1 : cells + (h.2.1.1 - h'.2.1.1) = z.1 - h'.2.1.1 := by omega
                  have e2 : slots + (h.2.1.2 - h'.2.1.2) = z.2 - h'.2.1.2 := by omega
                  rw [e1, e2] at X'
                  split at hex
                  · rename_i pc' hfind
                    obtain ⟨vm2, X2, hgo2⟩ := mm_catch_T C X' hE' (ls := ls) (rest := rest) hfind hex1
                    obtain ⟨t, st1, hres⟩ := ih (d' + 1) k pc' lv [.ref x.2] h' r hex R s m args below meth c z C T'.heap (locs ++ L) _ _ ls hl ⟨hE', fun q hq => (List.mem_append.mp hq).elim (hL q) (hL' q), by omega, by omega, rfl, rfl⟩ (T'.setVm vm2) rfl X2
                    exact ⟨t, hgo t (hst t (hgo2 t st1)), hres⟩
                  · obtain ⟨hh0, hh1⟩ := mm_cond2 hex
                    cases hh1
                    have hh2 : t_hh k = [] := List.eq_nil_of_length_eq_zero (Nat.eq_of_beq_eq_true hh0)
                    have hh3 : c.exceptionTable.toList = [] := by
                      have := hMm.2.2.2.2.2.2.2.1
                      rw [hh2] at this
                      exact List.map_eq_nil_iff.mp this
                    obtain ⟨w1, w2, w3, w4, w5⟩ := X'.leaveThrown x.2 (g := F0 m pc ls rest) rfl rfl rfl (fun q hq => by rw [hh3] at hq; cases hq) hMm.2.2.2.2.2.2.1
                    exact ⟨_, hgo _ (hst _ w1), w2, w3, w4, ⟨_, fun q hq => (List.mem_append.mp hq).elim (hL q) (hL' q), w5⟩, hE', hex1, (show h'.2.1.1 ≤ z.1 by omega), (show h'.2.1.2 ≤ z.2 by omega)⟩
end MMSIM
