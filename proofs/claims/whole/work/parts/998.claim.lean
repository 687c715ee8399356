/-! THE CLAIM OUT OF THE LAW'S RUN OVER THE MINI MACHINE (the frame of this part began as the skeleton's) -/
def R_law : String := "TrusteeDeskLaw"
def lw_P (b : Addr) (xs : List Int32) (args : Array Value) (s : State) : Prop := args = #[.ref b] ∧ s.IntsAt b xs ∧ xs.length ≤ 2560 ∧ (Jvm.Cond.and given_1 narrow_1).before args s = true
def lw_Q (_ : Array Value) (s : State) (o : Outcome) (t : State) : Prop := o = .returned (some (.int 1)) ∧ Framed s o t [] 601024 7293034
def lw_Z (below : List Frame) (a : Array Value) (s : State) : State → Prop := fun t => ∃ o, t.status = .running ∧ Ended t below o ∧ lw_Q a s o t
def lw_At (p : Program) (s : State) (m : MethodId) (meth : Method) (c : Code) (b L : Nat) (xs : Nat → Int32) : Prop :=
  p.tables.exec = Jvm.exec ∧ mm_Mt (t_y 110) (t_b 110) (t_nl 110) (t_rt 110) (t_hh 110) s m meth c ∧ (∀ w ∈ lw_tbl, w.before #[Value.ref b] s = true) ∧ va_X b L xs s s.heap ∧ b < s.heap.size ∧ (Jvm.Cond.and given_1 narrow_1).before #[Value.ref b] s = true
section CLAIM
variable {p : Program} {l : Launch} {e : Env} {s : State} {m : MethodId} {below : List Frame} {meth : Method} {c : Code} {b L : Nat} {xs : Nat → Int32}
theorem st_Nc (h : (Jvm.Cond.and given_1 narrow_1).before #[Value.ref b] s = true) : ∀ q ∈ tb_nc, va_Nc q.1 q.2 s := by
  have hs := flat_of_before _ h
  intro q hq
  refine va_Nc.of (hs _ ?_)
  revert q hq
  decide +kernel
theorem st_Wd (hts : ∀ w ∈ lw_tbl, w.before #[Value.ref b] s = true) (h : (Jvm.Cond.and given_1 narrow_1).before #[Value.ref b] s = true) : mm_Wd s :=
  ⟨fun w hw A => mm_move (List.mem_filter.mp hw).2 (State.WarmedH.refl s) (hts w (List.mem_filter.mp hw).1), st_Nc h⟩
theorem st_Zs (hts : ∀ w ∈ lw_tbl, w.before #[Value.ref b] s = true) (h : (Jvm.Cond.and given_1 narrow_1).before #[Value.ref b] s = true) : mm_Zs s s.heap := by
  have hs := flat_of_before _ h
  exact ⟨mm_Z1.of (hts _ (by decide +kernel)) (hs _ (by decide +kernel)), mm_Z1.of (hts _ (by decide +kernel)) (hs _ (by decide +kernel))⟩
theorem st_ui (hts : ∀ w ∈ lw_tbl, w.before #[Value.ref b] s = true) {ci : Nat} {C : String} {T : u_T} {N n : Nat} (h : t_cl[ci]? = some (C, T, N)) (hi : Cond.instantiable C n ∈ lw_tbl) : ∃ (cC : ClassId) (iS : Nat → Nat), u_Kn s C T N cC iS :=
  u_known hts (fun w hw => (List.mem_filter.mp ((tb_cl h).1 w hw)).1) (hts _ hi)
theorem st_D (hts : ∀ w ∈ lw_tbl, w.before #[Value.ref b] s = true) : ∃ D : va_G, ∀ (k : Nat) (q : vw_C), t_cl[k]? = some q → u_Kn s q.1 q.2.1 q.2.2 (D.1 k) (D.2 k) := by
  have one : ∀ k : Nat, ∃ (cC : ClassId) (iS : Nat → Nat), ∀ q : vw_C, t_cl[k]? = some q → u_Kn s q.1 q.2.1 q.2.2 cC iS := by
    intro k
    have f : ∀ (C : String) (T : u_T) (N n : Nat), t_cl[k]? = some (C, T, N) → Cond.instantiable C n ∈ lw_tbl → ∃ (cC : ClassId) (iS : Nat → Nat), ∀ q : vw_C, t_cl[k]? = some q → u_Kn s q.1 q.2.1 q.2.2 cC iS := by
      intro C T N n h hi
      obtain ⟨cC, iS, u⟩ := st_ui hts h hi
      refine ⟨cC, iS, fun q hq => ?_⟩
      rw [h] at hq
      cases hq
      exact u
    match k with
    | 0 => exact f _ _ _ 10 rfl (by decide +kernel)
    | 1 => exact f _ _ _ 9 rfl (by decide +kernel)
    | 2 => exact f _ _ _ 4 rfl (by decide +kernel)
    | 3 => exact f _ _ _ 4 rfl (by decide +kernel)
    | 4 => exact f _ _ _ 26 rfl (by decide +kernel)
    | 5 => exact f _ _ _ 6 rfl (by decide +kernel)
    | 6 => exact f _ _ _ 6 rfl (by decide +kernel)
    | 7 => exact f _ _ _ 6 rfl (by decide +kernel)
    | 8 => exact f _ _ _ 6 rfl (by decide +kernel)
    | k + 9 => exact ⟨default, fun _ => 0, fun q hq => by cases hq⟩
  exact ⟨(fun k => Classical.choose (one k), fun k => Classical.choose (Classical.choose_spec (one k))), fun k q hq => Classical.choose_spec (Classical.choose_spec (one k)) q hq⟩
theorem st_A (hts : ∀ w ∈ lw_tbl, w.before #[Value.ref b] s = true) (hX : va_X b L xs s s.heap) : ∃ aC : Nat → ClassId, (∀ t : Nat, t < 6 → ∃ (k : Class) (comp : ClassId), s.vm.classes[aC t]? = some k ∧ k.kind = .array comp (mm_ty t)) ∧ (∀ t : Nat, t < 5 → va_RA s (aC t) (mm_ty t)) ∧ ∃ cell : Cell, s.heap[b]? = some cell ∧ cell.cls = aC 5 ∧ cell.vm ≠ .unknown ∧ (∀ k, cell.vm ≠ .statics k) ∧ cell.slots.size = L ∧ ∀ j : Nat, j < L → cell.slots[j]? = some (.int (xs j)) := by
  obtain ⟨scr, x1, ⟨x2, k5, x3, comp5, x4⟩, x5, x6, x7⟩ := hX
  obtain ⟨c0, k0, p0, a0, b0, d0⟩ := Cond.arrayClass_spec (hts (.arrayClass .int) (by decide +kernel))
  obtain ⟨c1, k1, p1, a1, b1, d1⟩ := Cond.arrayClass_spec (hts (.arrayClass .long) (by decide +kernel))
  obtain ⟨c2, k2, p2, a2, b2, d2⟩ := Cond.arrayClass_spec (hts (.arrayClass .boolean) (by decide +kernel))
  obtain ⟨p3, c3, k3, f3, g3, b3, d3, a3⟩ := Cond.arrayOver_spec (hts (.arrayOver (.object "TrusteeDesk$Claim")) (by decide +kernel))
  obtain ⟨p4, c4, k4, f4, g4, b4, d4, a4⟩ := Cond.arrayOver_spec (hts (.arrayOver (.object "TrusteeDesk$Asset")) (by decide +kernel))
  refine ⟨fun t => match t with | 0 => c0 | 1 => c1 | 2 => c2 | 3 => c3 | 4 => c4 | _ => scr.cls, fun t ht => ?_, fun t ht => ?_, scr, x1, rfl, x5, x2, x6, x7⟩
  · match t, ht with
    | 0, _ => exact ⟨k0, p0, b0, d0⟩
    | 1, _ => exact ⟨k1, p1, b1, d1⟩
    | 2, _ => exact ⟨k2, p2, b2, d2⟩
    | 3, _ => exact ⟨k3, p3, b3, d3⟩
    | 4, _ => exact ⟨k4, p4, b4, d4⟩
    | 5, _ => exact ⟨k5, comp5, x3, x4⟩
    | t + 6, ht => omega
  · match t, ht with
    | 0, _ => exact a0
    | 1, _ => exact a1
    | 2, _ => exact a2
    | 3, _ => exact ⟨k3, p3, b3, d3, f3, a3⟩
    | 4, _ => exact ⟨k4, p4, b4, d4, f4, a4⟩
    | t + 5, ht => omega
/-- the mini machine's heap at the law's entry: the script alone -/
def st_h (n b L : Nat) (xs : Nat → Int32) (z : Nat × Nat) : mm_H := (n, z, fun q => cond (Nat.beq q b) (some (.inr (5, L, fun i => .int (xs i)))) none)
theorem st_HL {z : Nat × Nat} (hb : b < s.heap.size) : HL s.heap.size [] b (.inr (5, L, fun i => .int (xs i))) z.1 z.2 (st_h s.heap.size b L xs z) := by
  refine ⟨rfl, fun k c hk => (by cases hk), ?_, hb, Nat.le_refl _, Nat.le_refl _⟩
  show cond (Nat.beq b b) _ _ = _
  rw [Nat.beq_refl]
  rfl
theorem st_Ok {D : va_G} {aC : Nat → ClassId} {z : Nat × Nat} {cell : Cell} (y1 : s.heap[b]? = some cell) (y2 : cell.cls = aC 5) (y3 : cell.vm ≠ .unknown) (y4 : ∀ k, cell.vm ≠ .statics k) (y5 : cell.slots.size = L) (y6 : ∀ j : Nat, j < L → cell.slots[j]? = some (.int (xs j))) : mm_Ok D aC s.heap z (st_h s.heap.size b L xs z) s.heap [] 0 0 := by
  refine ⟨⟨rfl, fun a q hq => ?_, fun q hq cell hc => ?_, Nat.le_refl _, fun q _ => rfl⟩, fun q hq => (by cases hq), Nat.le_refl _, Nat.le_refl _, (Nat.sub_self _).symm, (Nat.sub_self _).symm⟩
  · by_cases ea : a = b
    · subst ea
      have hq : cond (Nat.beq a a) (some (Sum.inr (5, L, fun i => Value.int (xs i)))) none = some q := hq
      rw [Nat.beq_refl] at hq
      cases hq
      exact ⟨⟨cell, y1, y2, y3, y4, y5, y6⟩, fun x => by cases x⟩
    · have hq : cond (Nat.beq a b) (some (Sum.inr (5, L, fun i => Value.int (xs i)))) none = some q := hq
      rw [mm_beq_ne ea] at hq
      cases hq
  · rw [Array.getElem?_eq_none hq] at hc
    cases hc
theorem st_fr {t : State} {k n k' n' : Nat} (h : s.sameButNew t [] k n) (h1 : k ≤ k') (h2 : n ≤ n') : s.sameButNew t [] k' n' := by
  obtain ⟨b1, b2, b3, b4, b5, b6⟩ := h
  exact ⟨b1, b2, Nat.le_trans b3 (Nat.add_le_add_left h1 _), b4, Nat.le_trans b5 h2, b6⟩
theorem st_Z {D : va_G} {aC : Nat → ClassId} {z : Nat × Nat} {r : mm_O × mm_H} {t : State} {N1 N2 : Nat} (hz : z = (N1, N2)) (hr : r.1 = .inl (some (.int 1))) (h : mm_Res D aC t_cl s.heap s below z r t) : ∃ o, t.status = .running ∧ Ended t below o ∧ o = .returned (some (.int 1)) ∧ Framed s o t [] N1 N2 := by
  obtain ⟨a2, a3, a4, ⟨J, a5, a6⟩, -⟩ := h
  rw [hr] at a3
  subst hz
  exact ⟨.returned (some (.int 1)), a2, a3, rfl, ⟨_, rfl⟩, a4, st_fr (State.sameButNew.drop_fresh (L := []) (J := J) a6 a5) (Nat.sub_le _ _) (Nat.sub_le _ _)⟩
theorem st_run {z : Nat × Nat} (hL : L ≤ 2560) (hb : b < s.heap.size) (h1 : 9000 + 28 ≤ z.1) (h2 : 600000 + 18937 ≤ z.2) : ∃ n r, mm_exec n 11 110 0 [(0, .ref b)] [] (st_h s.heap.size b L xs z) = some r ∧ r.1 = .inl (some (.int 1)) :=
  law_all (d := 2) hL ((st_HL (z := z) hb).less h1 h2)
theorem whole_run {z : Nat × Nat} {R : Room} {N1 N2 : Nat} (hz : z = (N1, N2)) (hltr : l.stackTraces = false) (hL : L ≤ 2560) (h1 : 9000 + 28 ≤ z.1) (h2 : 600000 + 18937 ≤ z.2) (r1 : 11 ≤ R.frames) (r2 : 36 * 11 ≤ R.locals) (r3 : z.1 ≤ R.cells) (r4 : z.2 ≤ R.slots) (C0 : lw_At p s m meth c b L xs) : W p l e R s m #[Value.ref b] below meth c s.heap [] 0 0 (fun t => ∃ o, t.status = .running ∧ Ended t below o ∧ o = .returned (some (.int 1)) ∧ Framed s o t [] N1 N2) (entryFrame m ([Value.ref b] : List Value).toArray 8) := by
  obtain ⟨hx, hM, hts, hX, hbl, hgv⟩ := C0
  obtain ⟨D, hD⟩ := st_D hts
  obtain ⟨aC, hA1, hA2, cell, y1, y2, y3, y4, y5, y6⟩ := st_A hts hX
  obtain ⟨n, r, hex, hr⟩ := st_run (s := s) (xs := xs) (z := z) hL hbl h1 h2
  have hl := lv_entry ([.ref b]) (n := 8) (Nat.le_of_ble_eq_true rfl)
  rw [lg_entry_eq]
  generalize (lg_sl ([.ref b]) ++ List.replicate (8 - (lg_sl ([.ref b])).length) Slot.unset).toArray = ls at hl ⊢
  have hl : lv_has ls (t_nl 110) [(0, .ref b)] := hl
  have K := mm_sim (p := p) (l := l) (e := e) (D := D) (aC := aC) (H0 := s.heap) hltr n 11 110 0 [(0, .ref b)] [] _ r hex R s m #[Value.ref b] below meth c z ⟨hx, st_Wd hts hgv, ⟨hD, hA1, hA2⟩, hM, r1, r2, r3, r4, st_Zs hts hgv⟩ s.heap [] 0 0 ls hl (st_Ok y1 y2 y3 y4 y5 y6)
  intro T hT X
  obtain ⟨t, a1, a2⟩ := K T hT X
  exact ⟨t, a1, st_Z hz hr a2⟩
theorem whole_start (hltr : l.stackTraces = false) (hL : L ≤ 2560) (C0 : lw_At p s m meth c b L xs) : W p l e room_1 s m #[Value.ref b] below meth c s.heap [] 0 0 (lw_Z below #[Value.ref b] s) (entryFrame m ([Value.ref b] : List Value).toArray 8) :=
  whole_run (z := (601024, 7293034)) rfl hltr hL (by decide) (by decide) (by decide) (by decide) (by decide) (by decide) C0
end CLAIM
set_option maxHeartbeats 4000000 in
theorem lw_walk (l : Launch) (hltr : l.stackTraces = false) (b : Addr) (xs : List Int32) : MetFree l x (headSpec (Jvm.Cond.code x code maxLocals ret :: tables_1) room_1) (lw_P b xs) (fun _ _ _ _ _ => True) lw_Q := by
  refine MetFree.of_bodyS (code := code) (maxLocals := maxLocals) (ret := ret) (by decide) ?_ ?_
  · intro args s m h hn
    obtain ⟨meth, c, h1, h2, h3, h4, h5, h6, -, -⟩ := Cond.code_spec hn (atoms_spec (ws := Jvm.Cond.code x code maxLocals ret :: tables_1) h _ List.mem_cons_self)
    exact ⟨meth, c, h1, h2, h3, h4, h5, h6⟩
  · intro p e s m args below meth c s₁ B hml0 hP _
    obtain ⟨rfl, hx, hbd, hgv⟩ := hP
    obtain ⟨scr, harrAt, hlist, hof, hsmall⟩ := hx
    obtain ⟨hcb, hkn, -, -⟩ := State.arrayAt?_spec harrAt
    have hts0 : ∀ c ∈ (Jvm.Cond.code x code maxLocals ret :: tables_1), c.before #[Value.ref b] s = true := atoms_spec (ws := Jvm.Cond.code x code maxLocals ret :: tables_1) B.pre
    have hts : ∀ w ∈ lw_tbl, w.before #[Value.ref b] s = true := k2_hts_sels lw_privs (fun w hw => hts0 w (List.mem_cons_of_mem _ hw)) lw_privs_ok
    have X₀ : Stand p l e room_1 s m #[Value.ref b] below meth c s₁ [] 0 0 := Stand.of_body B
    have hM : mm_Mt (t_y 110) (t_b 110) (t_nl 110) (t_rt 110) (t_hh 110) s m meth c := by
      obtain ⟨meth', c', h1, h2, h3, h4, h5, h6, h7, h8⟩ := Cond.code_spec B.named (hts0 _ List.mem_cons_self)
      have e1 : meth' = meth := Option.some.inj (h1.symm.trans X₀.method)
      subst e1
      have e2 : c' = c := Option.some.inj (h2.symm.trans X₀.code)
      subst e2
      have h9 : c'.exceptionTable.toList = [] := by simpa using h7
      refine ⟨B.named, h1, h2, h3, h4, h5, h6, ?_, h8⟩
      rw [h9]
      rfl
    have hh0 : s₁.heap = s.heap := by rw [B.state]; rfl
    have hsz : scr.slots.size = xs.length := by rw [← Array.length_toList, hlist, List.length_map]
    have hval : ∀ j : Nat, j < xs.length → scr.slots[j]? = some (.int (xs.getD j 0)) := fun j hj => by
      rw [← Array.getElem?_toList, hlist]
      simp [hj]
    have hbl : b < s.heap.size := (Array.getElem?_eq_some_iff.mp hcb).1
    have hX : va_X b xs.length (fun j => xs.getD j 0) s s.heap := ⟨scr, hcb, hof, hkn, hsz, hval⟩
    have K : W p l e room_1 s m #[Value.ref b] below meth c s₁.heap [] 0 0 (lw_Z below #[Value.ref b] s) (entryFrame m ([Value.ref b] : List Value).toArray 8) := by
      rw [hh0]
      exact whole_start hltr hbd ⟨B.exec, hM, hts, hX, hbl, hgv⟩
    obtain ⟨t, a1, o, b1, b2, b3⟩ := K s₁ rfl X₀
    exact ⟨t, o, a1, b1, b2, b3⟩
theorem lw_pre_spec {args : Array Value} {s : State} (h : (Jvm.Cond.and given_1 narrow_1).before args s = true) (hr : rest_1_c.before args s = true) : ∃ (b : Addr) (xs : List Int32), lw_P b xs args s := by
  have hs := flat_of_before _ h
  have hq := flat_of_before _ hr
  have hc : (Cond.count 1).before args s = true := hs _ (by decide +kernel)
  have harr : (Cond.arrayOf (.arg 0) .int).before args s = true := hs _ (by decide +kernel)
  have hle : (Cond.le (.length (.arg 0)) (.int 2560)).before args s = true := hs _ (by decide +kernel)
  have hlen : (Cond.isInt (.length (.arg 0))).before args s = true := hq _ (by decide +kernel)
  have hall : (Cond.all (.arg 0) (.isInt (.elem (.arg 0) (.index 0)))).before args s = true := hq _ (by decide +kernel)
  obtain ⟨b, xs, hb, hx⟩ := State.ints_of_pre rfl harr hlen hall
  have hsm : xs.length < 2 ^ 31 := hx.choose_spec.2.2.2
  have hev : (Term.length (.arg 0)).eval args s none [] s = some (.int xs.length.toInt32) := hx.length_eval hb
  have hv := Cond.le_ints hev (show (Term.int 2560).eval args s none [] s = some (.int 2560) from rfl)
  have hd : xs.length.toInt32 ≤ 2560 := by
    simpa [Cond.before, Cond.holds, hv] using hle
  have hN : xs.length ≤ 2560 := (Int32.ofNat_le_ofNat hsm (by decide)).mp (show Int32.ofNat xs.length ≤ Int32.ofNat 2560 from hd)
  exact ⟨b, xs, Cond.one_arg hc (show args[0]? = some (.ref b) from hb), hx, hN, h⟩
theorem lw_comes (l : Launch) (hltr : l.stackTraces = false) : Comes l x (Jvm.Cond.code x code maxLocals ret :: tables_1) room_1 (fun tb e args s => Calls_1 tb e args s ∧ rest_1 tb e args s ∧ Pre_1 tb e args s)
    (fun _ _ args s o t => lw_Q args s o t) := by
  intro p e ha hc hk s m args below hf hfit hheap happ hpre
  obtain ⟨b, xs, hP⟩ := lw_pre_spec hpre.2.2 hpre.2.1
  obtain ⟨k, o, h1, h2, h3, hQ⟩ := lw_walk l hltr b xs p e ha hc hk s m args below hf ((Spec.applies_iff_loose hf).mp happ).1 hP trivial
  exact ⟨k, o, h1, h2, h3, hQ⟩
theorem lw_frame {s t : State} {o : Outcome} {args : Array Value} (h : Framed s o t [] 601024 7293034) :
    Framed s o t (fieldLocs frame_1_writes args s ++ arrayLocs frame_1_arrays args s ++ staticLocs frame_1_statics s) 601024 7293034 := h
theorem lw_traces {l : Launch} (h : l.flags = flags0) : l.stackTraces = false := by
  unfold Launch.stackTraces
  rw [h]
  decide
theorem lw_limb (L : Cond) (hL : ∀ (args : Array Value) (s t : State), L.after args s (.returned (some (.int 1))) t = true) :
    ArmFor flags0 classFile x code maxLocals ret World_1 tables_1 room_1 Calls_1 rest_1 Pre_1
      (fun tb e a s o t => postC L tb e a s o t ∧ Framed s o t (fieldLocs frame_1_writes a s ++ arrayLocs frame_1_arrays a s ++ staticLocs frame_1_statics s) 601024 7293034) := by
  intro l hfl _ _ p e ha hc hk s m args below hf hfit hheap happ hpre
  obtain ⟨k, o, h1, h2, h3, rfl, hF⟩ := lw_comes l (lw_traces hfl) p e ha hc hk s m args below hf hfit hheap happ hpre
  exact ⟨k, _, h1, h2, h3, hL args s _, lw_frame hF⟩
theorem i_vc : Claimed_1_1 ∧ Claimed_1_2 := ⟨lw_limb limb_1_1 (fun args s t => by simp [limb_1_1, Cond.after, Cond.holds, Cond.value]), lw_limb limb_1_2 (fun args s t => Cond.after_iff.mpr (by
  first | (rw [show limb_1_2 = Cond.eq .result (.int 1) from rfl, Cond.eq_ints (x := 1) (y := 1) rfl rfl]; simp; done) | (simp [limb_1_2, Cond.value, Term.eval]; done)))⟩
