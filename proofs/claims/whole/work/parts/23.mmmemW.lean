theorem mm_cond2 {α : Type} {b : Bool} {x : Option α} {y : α} (h : cond b x none = some y) : b = true ∧ x = some y := by
  cases b with
  | true => exact ⟨rfl, h⟩
  | false => cases h
section MMM
variable {p : Program} {l : Launch} {e : Env} {R : Room} {s : State} {m : MethodId} {args : Array Value} {below : List Frame} {meth : Method} {c : Code} {H : Heap} {locs : List Loc} {cells slots : Nat} {Q : State → Prop}
variable {cc : ByteArray} {pc : Nat} {ls : Array Slot} {rest : List Value} {D : va_G} {aC : Nat → ClassId} {cl : List vw_C} {H0 : Heap} {h : mm_H} {a : Nat} {Ts : List Cond}
theorem mm_getf_W (hx : p.tables.exec = Jvm.exec) (hb : c.code = cc) (hts : ∀ w ∈ Ts, w.before args s = true) {own : String} (hown : s.vm.findClass own = some m.cls) (hK : mm_Kn D aC cl s) (hE : mm_emb D aC cl H0 h H)
    {C : String} {T : u_T} {N ci k idx : Nat} (hc : cl[ci]? = some (C, T, N)) (hin : ∀ w ∈ u_ws C T N, w ∈ Ts) (hk : k < N) (hlink : Cond.fieldLink own idx (T k).1 (T k).2.1 (T k).2.2.1 ∈ Ts)
    {fs : List Value} {v : Value} (ha : h.2.2 a = some (.inl (ci, fs))) (hv : fs[k]? = some v) (hd : decode cc pc = .ok (.getfield idx, 3))
    (kk : W p l e R s m args below meth c H locs cells slots Q (F0 m (pc + 3) ls (v :: rest))) : W p l e R s m args below meth c H locs cells slots Q (F0 m pc ls (.ref a :: rest)) := by
  obtain ⟨⟨r, h1, cell, q1, q2, q3, q4⟩, -⟩ := hE.2.1 a _ ha
  have hr : r = (C, T, N) := Option.some.inj (h1.symm.trans hc)
  subst hr
  obtain ⟨hS, hfc, kC, hkC, hkind⟩ := hK.1 ci _ hc
  obtain ⟨cf, kf, fi, f, hi, hsl⟩ := hS k hk
  refine W.getf hx hb hown (hts _ hlink) hi (u_facts hfc hkC (u_lays hts hin hk) hi).1 q1 (by rw [q3]; exact fun h => by cases h) (v := v) ?_ rfl rfl hd kk
  rw [hsl, q4 k hk]
  simp [vp_V, hv]
theorem mm_apart (hts : ∀ w ∈ Ts, w.before args s = true) {C : String} {T : u_T} {N ci : Nat} (hin : ∀ w ∈ u_ws C T N, w ∈ Ts) (ty : Nat → FieldType) (hty : ∀ k, k < N → parseFieldDescriptor (T k).2.2.1 = some (ty k))
    (hnm : ∀ a, a < N → ∀ b, b < N → a ≠ b → (T a).2.1 ≠ (T b).2.1) (hK : mm_Kn D aC cl s) (hc : cl[ci]? = some (C, T, N)) : ∀ x y, x < N → y < N → x ≠ y → (D.2 ci) x ≠ (D.2 ci) y := by
  intro x y hx hy hne
  obtain ⟨hS, -⟩ := hK.1 ci _ hc
  obtain ⟨_, _, _, fa, hia, ea⟩ := hS x hx
  obtain ⟨_, _, _, fb, hib, eb⟩ := hS y hy
  rw [← ea, ← eb]
  refine u_apart (u_lays hts hin hx) (u_lays hts hin hy) hia hib ?_
  rw [(State.fieldFound?_type hia (hty x hx)).1, (State.fieldFound?_type hib (hty y hy)).1]
  exact hnm x hx y hy hne
/-- putfield: not final, or final in its class's own constructor -/
theorem mm_putf_W (hx : p.tables.exec = Jvm.exec) (hb : c.code = cc) (hts : ∀ w ∈ Ts, w.before args s = true) {own : String} (hown : s.vm.findClass own = some m.cls) (hK : mm_Kn D aC cl s) (hE : mm_emb D aC cl H0 h H)
    {C : String} {T : u_T} {N ci k idx : Nat} (hc : cl[ci]? = some (C, T, N)) (hin : ∀ w ∈ u_ws C T N, w ∈ Ts) (ty : Nat → FieldType) (hty : ∀ k, k < N → parseFieldDescriptor (T k).2.2.1 = some (ty k))
    (hnm : ∀ a, a < N → ∀ b, b < N → a ≠ b → (T a).2.1 ≠ (T b).2.1) (hk : k < N) (hlink : Cond.fieldLink own idx (T k).1 (T k).2.1 (T k).2.2.1 ∈ Ts) (hfin : (T k).2.2.2 = true → meth.name = "<init>" ∧ (T k).1 = own)
    {fs : List Value} {v : Value} (ha : h.2.2 a = some (.inl (ci, fs))) (hl : k < fs.length) (hf : mm_fit (ty k) v = true) (hd : decode cc pc = .ok (.putfield idx, 3))
    (kk : ∀ (H1 : Heap) (L : List Loc), mm_emb D aC cl H0 (mm_upd h a (.inl (ci, fs.set k v))) H1 → (∀ q ∈ L, H0.size ≤ q.base) → W p l e R s m args below meth c H1 (locs ++ L) cells slots Q (F0 m (pc + 3) ls rest)) :
    W p l e R s m args below meth c H locs cells slots Q (F0 m pc ls (v :: .ref a :: rest)) := by
  have hap := mm_apart hts hin ty hty hnm hK hc
  obtain ⟨⟨r, h1, cell, q1, q2, q3, q4⟩, hB⟩ := hE.2.1 a _ ha
  have hr : r = (C, T, N) := Option.some.inj (h1.symm.trans hc)
  subst hr
  obtain ⟨hS, hfc, kC, hkC, hkind⟩ := hK.1 ci _ hc
  obtain ⟨cf, kf, fi, f, hi, hsl⟩ := hS k hk
  have hst := (u_facts hfc hkC (u_lays hts hin hk) hi).1
  obtain ⟨hn, hfit⟩ := mm_fit_ok hf
  have key : ∀ H' : Heap, H'[a]? = some (cell.setSlot f.slot v) → H'.size = H.size → (∀ q : Nat, q ≠ a → H'[q]? = H[q]?) → mm_emb D aC cl H0 (mm_upd h a (.inl (ci, fs.set k v))) H' := by
    intro H' e1 e2 e3
    rw [hsl] at e1
    refine hE.upd e2 e3 ⟨_, hc, t_OB.to (V := updV (vp_V fs) k v) ⟨_, e1, q2, q3, t_set q4 hap hk v⟩ (fun j _ => vp_updV_set hl v j)⟩ (hB rfl) (fun cell' hc' => ?_)
    rw [e1] at hc'
    cases hc'
    show cell.vm.isStatics = false
    rw [q3]
    rfl
  cases hfl : (T k).2.2.2 with
  | false =>
    have hlay := hts _ (hin _ (u_in_lay hk))
    unfold u_lay at hlay
    rw [if_neg (by rw [hfl]; decide)] at hlay
    have h6 := u_store hfc hkC hkind hlay hi (hty k hk) hn hfit
    refine W.putK hx hb (f := f) ⟨hown, hts _ hlink, ⟨_, _, _, hi⟩, hst⟩ (by rw [q2]; exact h6) q1 q3 (by rw [hsl]; exact k2_hasslot (q4 k hk)) rfl rfl hd fun H' e1 e2 e3 => ?_
    exact kk H' _ (key H' e1 e2 e3) (fun q hq => by rw [List.mem_singleton.mp hq]; exact hB rfl)
  | true =>
    obtain ⟨hin2, hdecl⟩ := hfin hfl
    have hlay := hts _ (hin _ (u_in_lay hk))
    unfold u_lay at hlay
    rw [if_pos hfl] at hlay
    have hcf : m.cls = cf := by
      obtain ⟨_, _, c', _, _, _, -, -, hf', -, -, -, hown2, -⟩ := Cond.laysFinal_spec hlay
      have e1 : c' = cf := by have := hi.symm.trans hf'; simp at this; exact this.1.symm
      rw [hdecl] at hown2
      rw [← e1]; exact Option.some.inj (hown.symm.trans hown2)
    have h6 := u_fits hfc hkC hkind (Or.inr hlay) hi (hty k hk) hn hfit
    refine W.putFinK hx hb hown (hts _ hlink) hi hst hcf hin2 (by rw [q2]; exact h6) q1 q3 (by rw [hsl]; exact k2_hasslot (q4 k hk)) rfl rfl hd fun H' e1 e2 e3 => ?_
    exact kk H' _ (key H' e1 e2 e3) (fun q hq => by rw [List.mem_singleton.mp hq]; exact hB rfl)
theorem mm_arrOf (hK : mm_Kn D aC cl s) {t n : Nat} {f : Nat → Value} (ht : t < 6) {cell : Cell} (h2 : cell.cls = aC t) (h4 : ∀ k, cell.vm ≠ .statics k) : s.isArrayOf cell (mm_ty t) := by
  obtain ⟨k, comp, g1, g2⟩ := hK.2.1 t ht
  exact ⟨h4, k, by rw [h2]; exact g1, comp, g2⟩
/-- array loads and the length -/
def mm_rd (h : mm_H) (i : Instr) (len : Nat) (st : List Value) : Option (List Value) :=
  match i, len, st with
  | .iaload, 1, .int j :: .ref a :: r => match h.2.2 a with
    | some (.inr (0, n, f)) => (mm_idx j n).map (fun q => f q :: r)
    | some (.inr (5, n, f)) => (mm_idx j n).map (fun q => f q :: r)
    | _ => none
  | .laload, 1, .int j :: .ref a :: r => match h.2.2 a with
    | some (.inr (1, n, f)) => (mm_idx j n).map (fun q => f q :: r)
    | _ => none
  | .baload, 1, .int j :: .ref a :: r => match h.2.2 a with
    | some (.inr (2, n, f)) => (mm_idx j n).map (fun q => f q :: r)
    | _ => none
  | .aaload, 1, .int j :: .ref a :: r => match h.2.2 a with
    | some (.inr (3, n, f)) => (mm_idx j n).map (fun q => f q :: r)
    | some (.inr (4, n, f)) => (mm_idx j n).map (fun q => f q :: r)
    | _ => none
  | .arraylength, 1, .ref a :: r => match h.2.2 a with
    | some (.inr (0, n, _)) => some (.int (Int32.ofNat n) :: r)
    | some (.inr (1, n, _)) => some (.int (Int32.ofNat n) :: r)
    | some (.inr (5, n, _)) => some (.int (Int32.ofNat n) :: r)
    | _ => none
  | _, _, _ => none
theorem mm_rd_ok {n : Nat} {f : Nat → Value} {j : Int32} {r st' : List Value} (h : (mm_idx j n).map (fun q => f q :: r) = some st') : ∃ q, mm_idx j n = some q ∧ f q :: r = st' := by
  cases hi : mm_idx j n with
  | none => rw [hi] at h; cases h
  | some q => rw [hi] at h; exact ⟨q, rfl, Option.some.inj h⟩
set_option maxHeartbeats 4000000 in
theorem mm_rd_W {i : Instr} {len : Nat} {st st' : List Value} (hx : p.tables.exec = Jvm.exec) (hb : c.code = cc) (hK : mm_Kn D aC cl s) (hE : mm_emb D aC cl H0 h H) (hd : decode cc pc = .ok (i, len)) (hr : mm_rd h i len st = some st')
    (kk : W p l e R s m args below meth c H locs cells slots Q (F0 m (pc + len) ls st')) : W p l e R s m args below meth c H locs cells slots Q (F0 m pc ls st) := by
  unfold mm_rd at hr
  split at hr
  · split at hr
    · rename_i n f ha
      obtain ⟨q, hq, rfl⟩ := mm_rd_ok hr
      obtain ⟨g1, rfl⟩ := mm_idx_ok hq
      obtain ⟨⟨cell, c1, c2, c3, c4, c5, c6⟩, -⟩ := hE.2.1 _ _ ha
      exact W.iald hx hb c1 (mm_arrOf (n := n) (f := f) hK (t := 0) (by omega) c2 c4) c3 (by rw [c5]; exact g1) (c6 _ (Nat.not_le.mp fun z => g1 (Or.inr z))) rfl rfl hd kk
    · rename_i n f ha
      obtain ⟨q, hq, rfl⟩ := mm_rd_ok hr
      obtain ⟨g1, rfl⟩ := mm_idx_ok hq
      obtain ⟨⟨cell, c1, c2, c3, c4, c5, c6⟩, -⟩ := hE.2.1 _ _ ha
      exact W.iald hx hb c1 (mm_arrOf (n := n) (f := f) hK (t := 5) (by omega) c2 c4) c3 (by rw [c5]; exact g1) (c6 _ (Nat.not_le.mp fun z => g1 (Or.inr z))) rfl rfl hd kk
    · cases hr
  · split at hr
    · rename_i n f ha
      obtain ⟨q, hq, rfl⟩ := mm_rd_ok hr
      obtain ⟨g1, rfl⟩ := mm_idx_ok hq
      obtain ⟨⟨cell, c1, c2, c3, c4, c5, c6⟩, -⟩ := hE.2.1 _ _ ha
      exact W.lald hx hb c1 (mm_arrOf (n := n) (f := f) hK (t := 1) (by omega) c2 c4) c3 (by rw [c5]; exact g1) (c6 _ (Nat.not_le.mp fun z => g1 (Or.inr z))) rfl rfl hd kk
    · cases hr
  · split at hr
    · rename_i n f ha
      obtain ⟨q, hq, rfl⟩ := mm_rd_ok hr
      obtain ⟨g1, rfl⟩ := mm_idx_ok hq
      obtain ⟨⟨cell, c1, c2, c3, c4, c5, c6⟩, -⟩ := hE.2.1 _ _ ha
      exact W.zald hx hb c1 (mm_arrOf (n := n) (f := f) hK (t := 2) (by omega) c2 c4) c3 (by rw [c5]; exact g1) (c6 _ (Nat.not_le.mp fun z => g1 (Or.inr z))) rfl rfl hd kk
    · cases hr
  · split at hr
    · rename_i n f ha
      obtain ⟨q, hq, rfl⟩ := mm_rd_ok hr
      obtain ⟨g1, rfl⟩ := mm_idx_ok hq
      obtain ⟨⟨cell, c1, c2, c3, c4, c5, c6⟩, -⟩ := hE.2.1 _ _ ha
      exact W.aald hx hb c1 (mm_arrOf (n := n) (f := f) hK (t := 3) (by omega) c2 c4) rfl c3 (by rw [c5]; exact g1) (c6 _ (Nat.not_le.mp fun z => g1 (Or.inr z))) rfl rfl hd kk
    · rename_i n f ha
      obtain ⟨q, hq, rfl⟩ := mm_rd_ok hr
      obtain ⟨g1, rfl⟩ := mm_idx_ok hq
      obtain ⟨⟨cell, c1, c2, c3, c4, c5, c6⟩, -⟩ := hE.2.1 _ _ ha
      exact W.aald hx hb c1 (mm_arrOf (n := n) (f := f) hK (t := 4) (by omega) c2 c4) rfl c3 (by rw [c5]; exact g1) (c6 _ (Nat.not_le.mp fun z => g1 (Or.inr z))) rfl rfl hd kk
    · cases hr
  · split at hr
    · rename_i n f ha
      cases hr
      obtain ⟨⟨cell, c1, c2, c3, c4, c5, c6⟩, -⟩ := hE.2.1 _ _ ha
      exact W.alen hx hb c1 (mm_arrOf (n := n) (f := f) hK (t := 0) (by omega) c2 c4) (by rw [c5]) rfl rfl hd kk
    · rename_i n f ha
      cases hr
      obtain ⟨⟨cell, c1, c2, c3, c4, c5, c6⟩, -⟩ := hE.2.1 _ _ ha
      exact W.alen hx hb c1 (mm_arrOf (n := n) (f := f) hK (t := 1) (by omega) c2 c4) (by rw [c5]) rfl rfl hd kk
    · rename_i n f ha
      cases hr
      obtain ⟨⟨cell, c1, c2, c3, c4, c5, c6⟩, -⟩ := hE.2.1 _ _ ha
      exact W.alen hx hb c1 (mm_arrOf (n := n) (f := f) hK (t := 5) (by omega) c2 c4) (by rw [c5]) rfl rfl hd kk
    · cases hr
  · cases hr
/-- the class whose objects an array of references holds -/
def mm_elt : Nat → Option Nat
  | 3 => some 1
  | 4 => some 2
  | _ => none
/-- array stores -/
def mm_wr (h : mm_H) (i : Instr) (len : Nat) (st : List Value) : Option (List Value × mm_H) :=
  match i, len, st with
  | .iastore, 1, .int x :: .int j :: .ref a :: r => match h.2.2 a with
    | some (.inr (0, n, f)) => (mm_idx j n).map (fun q => (r, mm_upd h a (.inr (0, n, updV f q (.int x)))))
    | _ => none
  | .lastore, 1, .long x :: .int j :: .ref a :: r => match h.2.2 a with
    | some (.inr (1, n, f)) => (mm_idx j n).map (fun q => (r, mm_upd h a (.inr (1, n, updV f q (.long x)))))
    | _ => none
  | .bastore, 1, .int x :: .int j :: .ref a :: r => match h.2.2 a with
    | some (.inr (2, n, f)) => cond (x == 0 || x == 1) ((mm_idx j n).map (fun q => (r, mm_upd h a (.inr (2, n, updV f q (.int x)))))) none
    | _ => none
  | .aastore, 1, .ref v :: .int j :: .ref a :: r => match h.2.2 a, h.2.2 v with
    | some (.inr (3, n, f)), some (.inl (1, _)) => (mm_idx j n).map (fun q => (r, mm_upd h a (.inr (3, n, updV f q (.ref v)))))
    | some (.inr (4, n, f)), some (.inl (2, _)) => (mm_idx j n).map (fun q => (r, mm_upd h a (.inr (4, n, updV f q (.ref v)))))
    | _, _ => none
  | _, _, _ => none
theorem mm_wr_ok {α : Type} {n : Nat} {g : Nat → α} {j : Int32} {z : α} (h : (mm_idx j n).map g = some z) : ∃ q, mm_idx j n = some q ∧ g q = z := by
  cases hi : mm_idx j n with
  | none => rw [hi] at h; cases h
  | some q => rw [hi] at h; exact ⟨q, rfl, Option.some.inj h⟩
theorem mm_wr_bud {h h' : mm_H} {i : Instr} {len : Nat} {st st' : List Value} (hr : mm_wr h i len st = some (st', h')) : h'.2.1 = h.2.1 := by
  unfold mm_wr at hr
  split at hr
  · split at hr
    · obtain ⟨q, hq, hz⟩ := mm_wr_ok hr
      cases hz
      rfl
    · cases hr
  · split at hr
    · obtain ⟨q, hq, hz⟩ := mm_wr_ok hr
      cases hz
      rfl
    · cases hr
  · split at hr
    · obtain ⟨h1, h2⟩ := mm_cond2 hr
      obtain ⟨q, hq, hz⟩ := mm_wr_ok h2
      cases hz
      rfl
    · cases hr
  · split at hr
    · obtain ⟨q, hq, hz⟩ := mm_wr_ok hr
      cases hz
      rfl
    · obtain ⟨q, hq, hz⟩ := mm_wr_ok hr
      cases hz
      rfl
    · cases hr
  · cases hr
theorem mm_set_at {H' : Heap} {t n q : Nat} {f : Nat → Value} {v : Value} {cell : Cell} (hE : mm_emb D aC cl H0 h H) (hB : H0.size ≤ a) (c2 : cell.cls = aC t) (c3 : cell.vm ≠ .unknown) (c4 : ∀ k, cell.vm ≠ .statics k) (c5 : cell.slots.size = n) (c6 : ∀ j : Nat, j < n → cell.slots[j]? = some (f j)) (hq : q < n)
    (e1 : H'[a]? = some (cell.setSlot q v)) (e2 : H'.size = H.size) (e3 : ∀ q : Nat, q ≠ a → H'[q]? = H[q]?) : mm_emb D aC cl H0 (mm_upd h a (.inr (t, n, updV f q v))) H' := by
  refine hE.upd e2 e3 ⟨_, e1, c2, c3, c4, by rw [k2_slotsz]; exact c5, fun j hj => ?_⟩ hB (fun cell' hc' => ?_)
  · show (cell.setSlot q v).slots[j]? = some (updV f q v j)
    by_cases hjq : j = q
    · subst hjq
      rw [Cell.slots_setSlot_self _ (by rw [c5]; exact hq)]
      simp [updV]
    · rw [slot_ne cell v (Ne.symm hjq), c6 j hj]
      simp [updV, hjq]
  · rw [e1] at hc'
    cases hc'
    show cell.vm.isStatics = false
    cases hv : cell.vm with
    | statics k => exact absurd hv (c4 k)
    | _ => rfl
set_option maxHeartbeats 4000000 in
theorem mm_wr_W {i : Instr} {len : Nat} {st st' : List Value} {h' : mm_H} (hx : p.tables.exec = Jvm.exec) (hb : c.code = cc) (hK : mm_Kn D aC cl s) (hE : mm_emb D aC cl H0 h H)
    {r1 r2 : vw_C} (hc1 : cl[1]? = some r1) (hc2 : cl[2]? = some r2) (hn1 : r1.1 = "TrusteeDesk$Claim") (hn2 : r2.1 = "TrusteeDesk$Asset")
    (hd : decode cc pc = .ok (i, len)) (hr : mm_wr h i len st = some (st', h'))
    (kk : ∀ (H1 : Heap) (L : List Loc), mm_emb D aC cl H0 h' H1 → (∀ q ∈ L, H0.size ≤ q.base) → W p l e R s m args below meth c H1 (locs ++ L) cells slots Q (F0 m (pc + len) ls st')) : W p l e R s m args below meth c H locs cells slots Q (F0 m pc ls st) := by
  unfold mm_wr at hr
  split at hr
  · split at hr
    · rename_i n f ha
      obtain ⟨q, hq, hz⟩ := mm_wr_ok hr
      cases hz
      obtain ⟨g1, rfl⟩ := mm_idx_ok hq
      obtain ⟨⟨cell, c1, c2, c3, c4, c5, c6⟩, hB⟩ := hE.2.1 _ _ ha
      have hlt := Nat.not_le.mp fun z => g1 (Or.inr z)
      refine W.iast hx hb c1 (mm_arrOf (n := n) (f := f) hK (t := 0) (by omega) c2 c4) c3 (by rw [c5]; exact g1) rfl rfl hd fun H' e1 e2 e3 => ?_
      exact kk H' _ (mm_set_at hE (hB rfl) c2 c3 c4 c5 c6 hlt e1 e2 e3) (fun q hq => by rw [List.mem_singleton.mp hq]; exact hB rfl)
    · cases hr
  · split at hr
    · rename_i n f ha
      obtain ⟨q, hq, hz⟩ := mm_wr_ok hr
      cases hz
      obtain ⟨g1, rfl⟩ := mm_idx_ok hq
      obtain ⟨⟨cell, c1, c2, c3, c4, c5, c6⟩, hB⟩ := hE.2.1 _ _ ha
      have hlt := Nat.not_le.mp fun z => g1 (Or.inr z)
      refine W.last hx hb c1 (mm_arrOf (n := n) (f := f) hK (t := 1) (by omega) c2 c4) c3 (by rw [c5]; exact g1) rfl rfl hd fun H' e1 e2 e3 => ?_
      exact kk H' _ (mm_set_at hE (hB rfl) c2 c3 c4 c5 c6 hlt e1 e2 e3) (fun q hq => by rw [List.mem_singleton.mp hq]; exact hB rfl)
    · cases hr
  · split at hr
    · rename_i n f ha
      obtain ⟨hcx, hr⟩ := mm_cond2 hr
      obtain ⟨q, hq, hz⟩ := mm_wr_ok hr
      cases hz
      obtain ⟨g1, rfl⟩ := mm_idx_ok hq
      obtain ⟨⟨cell, c1, c2, c3, c4, c5, c6⟩, hB⟩ := hE.2.1 _ _ ha
      have hlt := Nat.not_le.mp fun z => g1 (Or.inr z)
      refine W.zast hx hb c1 (mm_arrOf (n := n) (f := f) hK (t := 2) (by omega) c2 c4) c3 (by rw [c5]; exact g1) rfl rfl hd fun H' e1 e2 e3 => ?_
      rw [(mm_fit_ok (ty := .boolean) (v := .int _) hcx).1] at e1
      exact kk H' _ (mm_set_at hE (hB rfl) c2 c3 c4 c5 c6 hlt e1 e2 e3) (fun q hq => by rw [List.mem_singleton.mp hq]; exact hB rfl)
    · cases hr
  · split at hr
    · rename_i n f _ ha hv
      obtain ⟨q, hq, hz⟩ := mm_wr_ok hr
      cases hz
      obtain ⟨g1, rfl⟩ := mm_idx_ok hq
      obtain ⟨⟨cell, c1, c2, c3, c4, c5, c6⟩, hB⟩ := hE.2.1 _ _ ha
      obtain ⟨⟨rv, hrv, cellV, v1, v2, v3, -⟩, -⟩ := hE.2.1 _ _ hv
      have hlt := Nat.not_le.mp fun z => g1 (Or.inr z)
      have hcls := (hK.1 1 _ hc1).2
      rw [hn1] at hcls
      obtain ⟨kA, comp, k1, k2, k3, -⟩ := hK.2.2 3 (by omega)
      have hce : comp = D.1 1 := Option.some.inj (k3.symm.trans hcls.1)
      subst hce
      obtain ⟨-, kE, hkE, -⟩ := id hcls
      refine W.aast (k := kA) (kv := kE) (kcomp := kE) (comp := D.1 1) (t := .object "TrusteeDesk$Claim") hx hb c1 c4 c3 (by rw [c2]; exact k1) k2 rfl hkE ⟨fun z => g1 (Or.inl z), by rw [c5]; exact hlt⟩ v1 (fun z hz => by rw [v3] at hz; cases hz) (by rw [v2]; exact hkE) (by rw [v2]; exact va_assign hcls) rfl rfl hd fun H' e1 e2 e3 => ?_
      exact kk H' _ (mm_set_at hE (hB rfl) c2 c3 c4 c5 c6 hlt e1 e2 e3) (fun q hq => by rw [List.mem_singleton.mp hq]; exact hB rfl)
    · rename_i n f _ ha hv
      obtain ⟨q, hq, hz⟩ := mm_wr_ok hr
      cases hz
      obtain ⟨g1, rfl⟩ := mm_idx_ok hq
      obtain ⟨⟨cell, c1, c2, c3, c4, c5, c6⟩, hB⟩ := hE.2.1 _ _ ha
      obtain ⟨⟨rv, hrv, cellV, v1, v2, v3, -⟩, -⟩ := hE.2.1 _ _ hv
      have hlt := Nat.not_le.mp fun z => g1 (Or.inr z)
      have hcls := (hK.1 2 _ hc2).2
      rw [hn2] at hcls
      obtain ⟨kA, comp, k1, k2, k3, -⟩ := hK.2.2 4 (by omega)
      have hce : comp = D.1 2 := Option.some.inj (k3.symm.trans hcls.1)
      subst hce
      obtain ⟨-, kE, hkE, -⟩ := id hcls
      refine W.aast (k := kA) (kv := kE) (kcomp := kE) (comp := D.1 2) (t := .object "TrusteeDesk$Asset") hx hb c1 c4 c3 (by rw [c2]; exact k1) k2 rfl hkE ⟨fun z => g1 (Or.inl z), by rw [c5]; exact hlt⟩ v1 (fun z hz => by rw [v3] at hz; cases hz) (by rw [v2]; exact hkE) (by rw [v2]; exact va_assign hcls) rfl rfl hd fun H' e1 e2 e3 => ?_
      exact kk H' _ (mm_set_at hE (hB rfl) c2 c3 c4 c5 c6 hlt e1 e2 e3) (fun q hq => by rw [List.mem_singleton.mp hq]; exact hB rfl)
    · cases hr
  · cases hr
end MMM
