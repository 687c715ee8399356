section MMTH
variable {p : Program} {l : Launch} {e : Env} {R : Room} {s : State} {m : MethodId} {args : Array Value} {below : List Frame} {meth : Method} {c : Code} {T : State} {locs : List Loc} {cells slots : Nat}
/-- the walk begun anew where it stands: what has been made and written so far is past -/
theorem mm_restart (X : Stand p l e R s m args below meth c T locs cells slots) (hcl : cells + 1 ≤ R.cells) (hsl : slots + 6 ≤ R.slots) :
    Stand p l e { frames := R.frames, cells := 1, slots := 6, locals := R.locals } ((T.setVm s.vm).setFrames (.invoking m args :: below)) m args below meth c T [] 0 0 := by
  obtain ⟨g₀, hfr⟩ := X.frames_eq
  have hfr' : (T.setVm s.vm).frames = .java g₀ :: below := hfr
  obtain ⟨th, hth, -⟩ := State.frames_cons hfr'
  have hcur : (T.setVm s.vm).cur < (T.setVm s.vm).threads.size := State.cur_lt_of_frames hfr'
  have hf : ((T.setVm s.vm).setFrames (.invoking m args :: below)).frames = .invoking m args :: below := State.frames_setFrames _ hcur
  obtain ⟨th', hth', -⟩ := State.frames_cons hf
  have hlim : e.platform.stackLimits (T.setVm s.vm).me = e.platform.stackLimits s.me := X.limits
  have hbyt : (T.setVm s.vm).me.stackBytes = s.me.stackBytes := X.bytes
  refine ⟨X.admits, X.cas, X.clock, hf, ?_, X.hears, X.method, X.code, X.here, X.tail, X.warmed, ?_, ?_, ?_⟩
  · have hr := X.room
    have hU : ((T.setVm s.vm).setFrames (.invoking m args :: below)).localsInUse = s.localsInUse := by
      rw [State.localsInUse_invoking hf (meth := meth) (c := c) X.method X.code, State.localsInUse_invoking X.frames X.method X.code]
    simp only [State.hasRoom, Bool.and_eq_true, decide_eq_true_eq] at hr ⊢
    obtain ⟨⟨⟨⟨h1, h2, h3, h4, h5, h6⟩, h7⟩, h8⟩, h9⟩ := hr
    rw [X.frames, List.length_cons] at h2 h3
    have q1 := X.heapSize
    have q2 := X.used
    simp only [hf, hU, List.length_cons, State.stackLimits_setFrames, State.stackBytes_setFrames, hlim, hbyt]
    refine ⟨⟨⟨⟨h1, h2, h3, h4, h5, h6⟩, ?_⟩, ?_⟩, X.book⟩
    · show T.heap.size + 1 ≤ e.platform.maxCells
      omega
    · show T.slotsUsed + 6 ≤ e.platform.maxSlots
      omega
  · rw [State.stackLimits_setFrames]; rfl
  · rw [State.stackBytes_setFrames]; rfl
  · have h := (State.sameButNew.refl ((T.setVm s.vm).setFrames (.invoking m args :: below)) hth').setFrames (T.setVm s.vm).frames (State.cur_lt_of_frames hf)
    rw [State.setFrames_setFrames, State.setFrames_self hth] at h
    exact h
theorem mm_oldKept {s U : State} {k n : Nat} (h : s.sameButNew ({ U with vm := s.vm } : State) [] k n) : s.heap.size ≤ U.heap.size ∧ U.heap.size ≤ s.heap.size + k ∧ ∀ q : Nat, q < s.heap.size → U.heap[q]? = s.heap[q]? := by
  obtain ⟨-, h2, h3, -, -, h6⟩ := h
  refine ⟨h2, h3, fun q hq => ?_⟩
  obtain ⟨c9, e1, e2, e3, e4⟩ := h6 q _ (Array.getElem?_eq_getElem hq)
  have hs : c9.slots = (s.heap[q]).slots := Array.ext_getElem? fun i => e4 i (by simp)
  have h9 : c9 = s.heap[q] := by
    rw [hs] at e2
    exact e2
  have e5 : U.heap[q]? = some c9 := e1
  rw [e5, h9, Array.getElem?_eq_getElem hq]
variable {H : Heap} {pc len d k : Nat} {ls : Array Slot} {st : List Value} {i : Instr} {D : va_G} {aC : Nat → ClassId} {H0 : Heap} {h h' : mm_H} {z : Nat × Nat} {lv : mm_L}
set_option maxHeartbeats 4000000 in
theorem mm_thr_W {x : Nat} (hltr : l.stackTraces = false) (C : mm_Cx p D aC H0 R s m meth c d k z) (O : mm_Ok D aC H0 z h H locs cells slots) (hl : lv_has ls (t_nl k) lv) (hd : decode (t_b k) pc = .ok (i, len)) (hr : mm_thr k d pc i len st h = some (x, h')) :
    W p l e R s m args below meth c H locs cells slots (mm_Res D aC t_cl H0 s below z (.inr (x, h.1), h')) (F0 m pc ls st) := by
  have hown := C.own
  have hts := C.hts (args := args)
  obtain ⟨hx, hwd, hK, ⟨hnm, hme, hco, hb, hml, hrt, hlk, hhh, hsig⟩, hRf, hRl, hRc, hRs, hZ⟩ := id C
  obtain ⟨hE, hL, hz1, hz2, ec, es⟩ := O
  unfold mm_thr at hr
  split at hr
  · rename_i idx
    split at hr
    · rename_i x' si ic hxc d3 d4 d6 d9
      obtain ⟨g1, g2⟩ := mm_cond2 hr
      simp only [Bool.and_eq_true] at g1
      obtain ⟨g0, g3, g4, g5, g6, g7, g8⟩ := g1
      cases Option.some.inj g2
      have g6 : 6 ≤ d := Nat.le_of_ble_eq_true g6
      have g7 : 1 ≤ h.2.1.1 := Nat.le_of_ble_eq_true g7
      have g8 : 6 ≤ h.2.1.2 := Nat.le_of_ble_eq_true g8
      have hh2 : t_hh k = [] := List.eq_nil_of_length_eq_zero (Nat.eq_of_beq_eq_true g5)
      have hh3 : c.exceptionTable.toList = [] := by
        rw [hh2] at hhh
        exact List.map_eq_nil_iff.mp hhh
      obtain ⟨Cn, Tn, names, hcl, hfitC, hfitN, hnl, hats, hlk1, hlk2⟩ := tb_thr hxc g4
      obtain ⟨tx, sa, hstr⟩ := tb_strs g3 hwd
      intro T hT X
      subst hT
      have htr : e.platform.stackTraces = false := (show e.platform.stackTraces = l.stackTraces by rw [X.admits.platform]).trans hltr
      have Y := mm_restart X (by omega) (by omega)
      have hvm : ((T.setVm s.vm).setFrames (.invoking m args :: below)).vm = s.vm := rfl
      have hhp : ((T.setVm s.vm).setFrames (.invoking m args :: below)).heap = T.heap := rfl
      generalize hA : (T.setVm s.vm).setFrames (.invoking m args :: below) = s' at Y hvm hhp
      have hW0 : s.WarmedH s'.vm := by rw [hvm]; exact State.WarmedH.refl s
      have hwd' : mm_Wd s' := hwd.moved hW0
      have hZ' : mm_Zs s' H0 := mm_Zs.moved (by rw [hvm]; exact Vm.Alike.refl _) hZ
      have hbel : ∀ q : Nat, q < H0.size → s'.heap[q]? = H0[q]? := fun q hq => by rw [hhp]; exact hE.2.2.2.2 q hq
      have hat : ∀ w ∈ Bundle.ownAtoms (t_on (t_o k)) ic Cn names, w.before args s' = true := by
        intro w hw
        rcases hats w hw with q | q | q | q | q
        · exact hwd'.1 w q args
        · rw [q]; exact hZ'.1.ref hbel
        · rw [q]; exact hZ'.2.ref hbel
        · rw [q]; exact hZ'.1.lays hbel
        · rw [q]; exact hZ'.2.lays hbel
      have hown' : s'.vm.findClass (t_on (t_o k)) = some m.cls := by rw [hvm]; exact hown
      have hins : (Cond.instantiable Cn 6).before args s' = true := hat _ (by simp [Bundle.ownAtoms])
      obtain ⟨vm₁, cX, kX, hfX, hkX, -, -, X₁, st1⟩ := Y.newCold hx (own := t_on (t_o k)) (C := Cn) (index := idx) (n := 6) hown' (hwd'.1 _ hlk1 args) hins (hwd'.1 _ hlk2 args) (g := F0 m pc ls st) rfl (by rw [hb]; exact hd) (Nat.le_refl _) (Nat.le_refl _)
      generalize hT1 : (T.setVm vm₁).pushCell { cls := cX, slots := kX.instanceTypes.map defaultValue, vm := .none } = T1 at X₁ st1
      have hcellA : T1.heap[T.heap.size]? = some (freshCell cX kX) := by rw [← hT1]; exact State.heap_pushCell_size _ _
      have hd3 : decode c.code (pc + 3) = .ok (.dup, 1) := by rw [hb]; exact tb_cod d3
      have hd4 : decode c.code (pc + 4) = .ok (.ldc si, 2) := by rw [hb]; exact tb_cod d4
      have hsum := mm_sum12 g0
      have hcat : (Value.ref T.heap.size).category = 1 := rfl
      have hstr' : vk_R (t_on (t_o k)) si tx sa s' := vk_R.warm hW0 hstr
      obtain ⟨U, hsteps, hrun, hend, hW, hsame, ce, hce, hO⟩ := X₁.ctorThrowS hx htr (own := t_on (t_o k)) (cls := Cn) (names := names) (ic := ic) hown' hfitC hfitN hat (fun x hx => nomatch hx) hfX hkX hcellA (by rw [hhp]; exact Nat.le_refl _) (msg := .ref sa) rfl
        (g := { method := m, pc := pc + 6, locals := ls, stack := .ref sa :: .ref T.heap.size :: .ref T.heap.size :: st, locked := none }) rfl (by rw [hml]; exact hl.1) rfl rfl (rest := st) rfl
        (by rw [hb]; exact tb_cod d6) (by rw [hb]; exact tb_cod d9) (fun q hq => by rw [hh3] at hq; cases hq) (by show names.length + 3 < R.frames; omega) (by show _ ≤ R.locals; simp only [List.map_cons, List.sum_cons, hcat]; show 2 * 0 + _ + _ ≤ _; omega) hlk
      obtain ⟨f1, f2, f3⟩ := mm_oldKept hsame
      rw [hhp] at f1 f2 f3
      have hWs : s.WarmedH U.vm := State.WarmedH.trans hW0 hW
      have hclc : s.vm.findClass Cn = some ce.cls := by
        have h9 := hO.cls
        rw [hvm] at h9
        exact h9
      have hcls : ce.cls = D.1 x := Option.some.inj (hclc.symm.trans (hK.1 x _ hcl).2.1)
      have hsz : U.heap.size = h.1 + 1 := by
        have := (Array.getElem?_eq_some_iff.mp hce).1
        rw [← hE.1]
        omega
      have hall : s.sameButNew ({ U with vm := s.vm } : State) locs (cells + 1) (slots + 6) := by
        subst hA
        obtain ⟨e1, e2⟩ := hsame
        rw [State.setFrames_setFrames] at e1
        have h2 : (T.setVm s.vm).sameButNew ({ U with vm := s.vm } : State) [] (0 + 1) (0 + 6) := ⟨e1, e2⟩
        have h3 := X.same.trans h2
        rw [List.append_nil] at h3
        exact h3
      refine ⟨U, ?_, hrun, ?_, hWs, ⟨locs, hL, ?_⟩, ?_, mm_push_self _ _ _, ?_, ?_⟩
      · refine st1 _ ?_
        show Steps p.tables e below (T1.setTop { method := m, pc := pc + 3, locals := ls, stack := .ref T.heap.size :: st, locked := none }) _
        jvm_step X₁.here [X₁.here.top, hx, hd3, Value.category]
        exact X₁.ldcString hx (own := t_on (t_o k)) (text := tx) (index := si) (a := sa) hown' hstr'.1 hstr'.2
          (g := { method := m, pc := pc + 4, locals := ls, stack := .ref T.heap.size :: .ref T.heap.size :: st, locked := none }) rfl hd4 _ hsteps
      · show Ended U below (.threw h.1)
        rw [← hE.1]
        exact hend
      · have e1 : z.1 - (h.2.1.1 - 1) = cells + 1 := by omega
        have e2 : z.2 - (h.2.1.2 - 6) = slots + 6 := by omega
        show s.sameButNew _ locs (z.1 - (h.2.1.1 - 1)) (z.2 - (h.2.1.2 - 6))
        rw [e1, e2]
        exact hall
      · refine hE.push hsz (fun q hq => f3 q (by rw [hE.1]; exact hq)) ⟨_, hcl, ce, by rw [← hE.1]; exact hce, hcls, hO.vm, fun j hj => absurd hj (Nat.not_lt_zero j)⟩ (fun cell hc9 => ?_)
        rw [← hE.1, hce] at hc9
        cases hc9
        rw [hO.vm]
        rfl
      · show h.2.1.1 - 1 ≤ z.1
        omega
      · show h.2.1.2 - 6 ≤ z.2
        omega
    · cases hr
  · cases hr
end MMTH
