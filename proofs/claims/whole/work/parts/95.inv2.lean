section INV2
variable {t v : Nat} {P P' P'' : pP} {i j q p : Nat}
theorem lk_L {f : Nat} (hf : f ≠ 5) (hi : i < pn P) (x : Int64) : Lk P (sL P f i x) := by
  refine ⟨⟨rfl, rfl, rfl⟩, fun _ => rfl, fun _ => rfl, fun q => ?_, fun q hq => ⟨rfl, ?_, ?_, ?_, ?_⟩⟩
  · rw [rL, if_neg (fun e => hf e.1.symm)]
  all_goals rw [rL, if_neg (fun e => by omega)]
theorem lk_7 (P : pP) (k : Nat) (x : Int64) : Lk P (sL P 7 k x) := by
  refine ⟨⟨rfl, rfl, rfl⟩, fun _ => rfl, fun _ => rfl, fun q => ?_, fun q hq => ⟨rfl, ?_, ?_, ?_, ?_⟩⟩
  all_goals rw [rL, if_neg (fun e => by omega)]
theorem lk_note (P : pP) (k o : Int32) (c : Int64) : Lk P (p_note P k o c) := ⟨⟨rfl, rfl, rfl⟩, fun _ => rfl, fun _ => rfl, fun _ => rfl, fun _ _ => ⟨rfl, rfl, rfl, rfl, rfl⟩⟩
theorem rI (P : pP) (f i : Nat) (x : Int32) (g q : Nat) : pI (sI P f i x) g q = if g = f ∧ q = i then x else pI P g q := rfl
theorem lk_st (hi : i < pn P) (x : Int32) : Lk P (sI P 0 i x) := by
  refine ⟨⟨rfl, rfl, rfl⟩, fun q => ?_, fun q => ?_, fun q => rfl, fun q hq => ⟨?_, rfl, rfl, rfl, rfl⟩⟩
  all_goals rw [rI, if_neg (fun e => by omega)]
theorem lk_end (P : pP) (x : Int32) : Lk P (sI P 4 0 x) := by
  refine ⟨⟨rfl, rfl, rfl⟩, fun q => ?_, fun q => ?_, fun q => rfl, fun q hq => ⟨?_, rfl, rfl, rfl, rfl⟩⟩
  all_goals rw [rI, if_neg (fun e => by omega)]
theorem lk_serve (b : Bool) (hi : i < pn P) (c : Int64) : Lk P (p_serve b P i c) := by
  unfold p_serve
  refine ((lk_7 P 0 _).trans (lk_L (P := sL P 7 0 _) (f := cond b 4 3) ?_ hi _)).trans (lk_note _ _ _ _)
  cases b <;> decide
theorem lk_release (hi : i < pn P) (c : Int64) : Lk P (p_release P i c) := ((lk_L (by decide) hi _).trans (lk_7 _ 0 _)).trans (lk_note _ _ _ _)
theorem lk_pay (hi : i < pn P) (c : Int64) : Lk P (p_pay P i c) := ((lk_7 P 0 _).trans (lk_L (P := sL P 7 0 _) (by decide) hi _)).trans (lk_note _ _ _ _)
theorem lk_res1 (hi : i < pn P) : Lk P (p_res1 P i) := ((lk_L (by decide) hi _).trans (lk_L (P := sL P 4 i _) (by decide) hi _)).trans (lk_note _ _ _ _)
theorem lk_resolve (b : Bool) (hi : i < pn P) : Lk P (p_resolve b P i) := by
  unfold p_resolve
  split
  · exact Lk.refl P
  · exact (lk_res1 hi).trans (lk_release (P := p_res1 P i) hi _)
theorem lk_set (hi : i < pn P) (n : Int64) : Lk P (p_set P i n) := by
  unfold p_set
  split
  · exact lk_st hi _
  · exact (lk_st hi _).trans (lk_L (P := sI P 0 i 0) (by decide) hi _)
theorem lk_serveI (opn : pP → Nat → Bool) (r : Nat) : ∀ (m i : Nat) (P : pP) (acc : Int64), i + m ≤ pn P → Lk P (p_serveI opn r m i P acc).1
  | 0, _, P, _, _ => Lk.refl P
  | m + 1, i, P, acc, h => by
    unfold p_serveI
    split
    · exact (lk_serve _ (by omega) _).trans (lk_serveI opn r m (i + 1) _ _ (by rw [(lk_serve (opn P i) (show i < pn P by omega) _).1.1]; omega))
    · exact lk_serveI opn r m (i + 1) P acc (by omega)
theorem lk_serveR (opn : pP → Nat → Bool) : ∀ (m r : Nat) (P : pP) (acc : Int64), Lk P (p_serveR opn m r P acc).1
  | 0, _, P, _ => Lk.refl P
  | m + 1, r, P, acc => by
    unfold p_serveR
    exact (lk_serveI opn r (pn P) 0 P acc (by omega)).trans (lk_serveR opn m (r + 1) _ _)
theorem lk_resolves (opn : pP → Nat → Bool) : ∀ (m i : Nat) (P : pP), i + m ≤ pn P → Lk P (p_resolves opn m i P)
  | 0, _, P, _ => Lk.refl P
  | m + 1, i, P, h => by
    unfold p_resolves
    exact (lk_resolve _ (by omega)).trans (lk_resolves opn m (i + 1) _ (by rw [(lk_resolve (opn P i) (show i < pn P by omega)).1.1]; omega))
theorem lk_drop : ∀ (m i : Nat) (P : pP), i + m ≤ pn P → Lk P (p_drop m i P)
  | 0, _, P, _ => Lk.refl P
  | m + 1, i, P, h => by
    unfold p_drop
    split
    · exact ((lk_st (by omega) _).trans (lk_release (P := sI P 0 i 2) (show i < pn P by omega) _)).trans (lk_drop m (i + 1) _ (by show _ ≤ pn P; omega))
    · exact lk_drop m (i + 1) P (by omega)
/-! open: class and reference alike, all along -/
theorem wf_sh (w : wf v P) (s : Sh P P') (hj : pj P' ≤ 2 ^ 30) : wf 0 P' := by
  obtain ⟨a, b, c, d, e, f, g⟩ := w
  obtain ⟨s1, s2, s3⟩ := s
  refine ⟨by rw [s1]; exact a, by rw [s2]; exact b, by omega, fun i hi => ?_, fun i hi => ?_, fun i hi k hk => ?_, fun r => ?_⟩
  · show P'.2.1 0 i < 8; rw [s3]; exact d i (by rw [← s1]; exact hi)
  · show P'.2.1 1 i ≤ 4; rw [s3]; exact e i (by rw [← s2]; exact hi)
  · show P'.2.1 2 _ < _; rw [s3, s1]
    exact f i (by rw [← s2]; exact hi) k (by show k < P.2.1 1 i; rw [← s3]; exact hk)
  · show P'.2.1 3 r ≤ 10000; rw [s3]; exact g r
/-- what open_eq asks of the counts -/
def Sm (P : pP) : Prop := pa P ≤ 20 ∧ ∀ j, j < pa P → pN P 1 j ≤ 4
theorem Sm.sh (h : Sm P) (s : Sh P P') : Sm P' := by
  obtain ⟨s1, s2, s3⟩ := s
  refine ⟨by rw [s2]; exact h.1, fun i hi => ?_⟩
  show P'.2.1 1 i ≤ 4
  rw [s3]
  exact h.2 i (by rw [← s2]; exact hi)
theorem wf.sm (w : wf v P) : Sm P := ⟨w.2.1, fun _ hj => w.mn hj⟩
theorem open_eq' (h : Oc P) (w : Sm P) (i : Nat) : p_openM P i = p_open P i := by
  have b := ocA_le (fun q => pN P 2 q) (fun j => pN P 1 j) (fun j => pI P 1 j) i (pa P) (fun j hj => w.2 j hj) (pa P) 0 (by omega)
  have a20 := w.1
  unfold p_openM p_open
  rw [op_ocA, h i]
  generalize ocA (fun q => pN P 2 q) (fun j => pN P 1 j) (fun j => pI P 1 j) i (pa P) 0 = n at *
  have e : (decide (nI n ≤ 0)) = !decide (0 < n) := by
    rw [show (0 : Int32) = nI 0 from rfl]
    by_cases h0 : 0 < n
    · rw [decide_eq_true h0, decide_eq_false (mt (nI_leI (by omega) (by omega)).mp (by omega))]; rfl
    · rw [decide_eq_false h0, decide_eq_true ((nI_leI (by omega) (by omega)).mpr (by omega))]; rfl
  rw [e]
  by_cases h1 : pI P 0 i = 1
  · rw [decide_eq_true h1, h1]; simp
  · rw [decide_eq_false h1]
    cases decide (0 < n) <;> cases decide (pI P 0 i = 2) <;> rfl
theorem serveI_eq (r : Nat) : ∀ (m i : Nat) (P : pP) (acc : Int64), Oc P → Sm P → i + m ≤ pn P → p_serveI p_openM r m i P acc = p_serveI p_open r m i P acc
  | 0, _, _, _, _, _, _ => rfl
  | m + 1, i, P, acc, ho, hs, h => by
    unfold p_serveI
    rw [open_eq' ho hs i]
    have k := lk_serve (p_open P i) (show i < pn P by omega) (p_cents P i (nI (pN P 3 r)))
    split
    · exact serveI_eq r m (i + 1) _ _ (ho.lk k) (hs.sh k.1) (by rw [k.1.1]; omega)
    · exact serveI_eq r m (i + 1) P acc ho hs (by omega)
theorem serveR_eq : ∀ (m r : Nat) (P : pP) (acc : Int64), Oc P → Sm P → p_serveR p_openM m r P acc = p_serveR p_open m r P acc
  | 0, _, _, _, _, _ => rfl
  | m + 1, r, P, acc, ho, hs => by
    unfold p_serveR
    have k := lk_serveI p_open r (pn P) 0 P acc (by omega)
    rw [serveI_eq r (pn P) 0 P acc ho hs (by omega)]
    exact serveR_eq m (r + 1) _ _ (ho.lk k) (hs.sh k.1)
theorem resolves_eq : ∀ (m i : Nat) (P : pP), Oc P → Sm P → i + m ≤ pn P → p_resolves p_openM m i P = p_resolves p_open m i P
  | 0, _, _, _, _, _ => rfl
  | m + 1, i, P, ho, hs, h => by
    unfold p_resolves
    have k := lk_resolve (p_open P i) (show i < pn P by omega)
    rw [open_eq' ho hs i]
    exact resolves_eq m (i + 1) _ (ho.lk k) (hs.sh k.1) (by rw [k.1.1]; omega)
/-! the bounds are kept -/
def Ef (i : Nat) (P P' : pP) : Prop := (∀ f, f < 5 → ∀ q, q ≠ i → pL P' f q = pL P f q) ∧ (∀ q, pL P' 5 q = pL P 5 q) ∧ ∀ j, pI P' 1 j = pI P 1 j
theorem Bnd.ef (h : Bnd t P) (e : Ef i P P') (hi : i < 60) (b : bd t P' i) (c0 : 0 ≤ (pL P' 7 0).toInt) (c1 : (pL P' 7 0).toInt + (pL P' 4 i).toInt ≤ (pL P 7 0).toInt + (pL P 4 i).toInt) : Bnd t P' := by
  refine ⟨fun q => ?_, fun q => by rw [e.2.1]; exact h.2.1 q, c0, ?_⟩
  · by_cases hq : q = i
    · rw [hq]; exact b
    · unfold bd
      rw [e.1 0 (by omega) q hq, e.1 1 (by omega) q hq, e.1 2 (by omega) q hq, e.1 3 (by omega) q hq, e.1 4 (by omega) q hq]
      exact h.1 q
  · have s := sm_upd (f := fun i => (pL P 4 i).toInt) (g := fun i => (pL P' 4 i).toInt) (q := i) (fun x hx => by show (pL P' 4 x).toInt = (pL P 4 x).toInt; rw [e.1 4 (by omega) x hx]) 60 0 (by omega) (by omega)
    have g : Gg P' = Gg P := by
      unfold Gg
      exact sm_ext 20 0 (fun x _ _ => by rw [e.2.2 x])
    have h4 := h.2.2.2
    unfold Tt at *
    rw [g, s]
    have s' : (fun i => (pL P' 4 i).toInt) i - (fun i => (pL P 4 i).toInt) i = (pL P' 4 i).toInt - (pL P 4 i).toInt := rfl
    omega
theorem cents_b (h : Bnd t P) (hp : p ≤ 10000) : 0 ≤ (p_cents P i (nI p)).toInt ∧ (p_cents P i (nI p)).toInt ≤ (pL P 7 0).toInt ∧ (0 < (p_cents P i (nI p)).toInt → (p_cents P i (nI p)).toInt ≤ (p_due P i (nI p)).toInt - (pL P 3 i).toInt - (pL P 4 i).toInt) := by
  obtain ⟨l1, l2, l3⟩ := lack_b (h.1 i) hp
  have c := h.2.2.1
  unfold p_cents
  split
  · rename_i q
    rw [lt_i] at q
    refine ⟨c, by omega, fun _ => ?_⟩
    have := l2 (by omega)
    omega
  · rename_i q
    rw [lt_i] at q
    exact ⟨l1, by omega, fun q => by have := l2 q; omega⟩
theorem ef_serve (b : Bool) (P : pP) (i : Nat) (c : Int64) : Ef i P (p_serve b P i c) := by
  refine ⟨fun f hf q hq => ?_, fun q => ?_, fun j => rfl⟩
  · unfold p_serve
    rw [nL _ _ _ _ (by omega), rL, if_neg (fun e => hq e.2), rL, if_neg (fun e => by omega)]
  · unfold p_serve
    rw [nL _ _ _ _ (by omega), rL, if_neg (fun e => by cases b <;> simp at e), rL, if_neg (fun e => by omega)]
theorem Bnd.serve (h : Bnd t P) (hi : i < 60) (hp : p ≤ 10000) (b : Bool) : Bnd t (p_serve b P i (p_cents P i (nI p))) := by
  obtain ⟨c1, c2, c3⟩ := cents_b (i := i) h hp
  have c4 := h.cash
  obtain ⟨d1, d2⟩ := due_b (h.1 i) hp
  obtain ⟨n1, n2, _⟩ := net_b (h.1 i)
  have hb := h.1 i
  generalize p_cents P i (nI p) = c at *
  have e0 : (pL P 7 0 - c).toInt = (pL P 7 0).toInt - c.toInt := sub_i (by omega)
  obtain ⟨b0, b1, b2, b3, b4⟩ := hb
  cases b
  · have e3 : (pL P 3 i + c).toInt = (pL P 3 i).toInt + c.toInt := add_i (by omega)
    have r7 : pL (p_serve false P i c) 7 0 = pL P 7 0 - c := rfl
    have r3 : pL (p_serve false P i c) 3 i = pL P 3 i + c := s2_self _ _ _ _
    have r4 : pL (p_serve false P i c) 4 i = pL P 4 i := rfl
    refine h.ef (ef_serve false P i c) hi ⟨b0, b1, b2, ?_, b4⟩ ?_ ?_
    · rw [r3, e3]; omega
    · rw [r7, e0]; omega
    · rw [r7, r4, e0]; omega
  · have e3 : (pL P 4 i + c).toInt = (pL P 4 i).toInt + c.toInt := add_i (by omega)
    have r7 : pL (p_serve true P i c) 7 0 = pL P 7 0 - c := rfl
    have r4 : pL (p_serve true P i c) 4 i = pL P 4 i + c := s2_self _ _ _ _
    refine h.ef (ef_serve true P i c) hi ⟨b0, b1, b2, b3, ?_⟩ ?_ ?_
    · rw [r4, e3]; omega
    · rw [r7, e0]; omega
    · rw [r7, r4, e0, e3]; omega
theorem ef_release (P : pP) (i : Nat) (c : Int64) : Ef i P (p_release P i c) := by
  refine ⟨fun f hf q hq => ?_, fun q => ?_, fun j => rfl⟩
  · unfold p_release
    rw [nL _ _ _ _ (by omega), rL, if_neg (fun e => by omega), rL, if_neg (fun e => hq e.2)]
  · rfl
theorem Bnd.release (h : Bnd t P) (hi : i < 60) {c : Int64} (h0 : 0 ≤ c.toInt) (h1 : c.toInt ≤ (pL P 4 i).toInt) : Bnd t (p_release P i c) := by
  have c4 := h.cash
  obtain ⟨b0, b1, b2, b3, b4⟩ := h.1 i
  have e0 : (pL P 7 0 + c).toInt = (pL P 7 0).toInt + c.toInt := add_i (by omega)
  have e3 : (pL P 4 i - c).toInt = (pL P 4 i).toInt - c.toInt := sub_i (by omega)
  have r7 : pL (p_release P i c) 7 0 = pL P 7 0 + c := rfl
  have r4 : pL (p_release P i c) 4 i = pL P 4 i - c := s2_self _ _ _ _
  refine h.ef (ef_release P i c) hi ⟨b0, b1, b2, b3, ?_⟩ ?_ ?_
  · rw [r4, e3]; omega
  · rw [r7, e0]; omega
  · rw [r7, r4, e0, e3]; omega
theorem resC_b (h : Bnd t P) (hp : pN P 3 (pN P 0 i) ≤ 10000) : 0 ≤ (p_resC P i).toInt ∧ (p_resC P i).toInt ≤ (pL P 4 i).toInt ∧ (pL P 3 i).toInt + (p_resC P i).toInt ≤ 400000000 := by
  obtain ⟨d1, d2⟩ := due_b (h.1 i) hp
  obtain ⟨n1, n2, _⟩ := net_b (h.1 i)
  obtain ⟨b0, b1, b2, b3, b4⟩ := h.1 i
  have e : (p_dueOf P i - pL P 3 i).toInt = (p_dueOf P i).toInt - (pL P 3 i).toInt := sub_i (by unfold p_dueOf; omega)
  have a : 0 ≤ (p_resA P i).toInt ∧ (pL P 3 i).toInt + (p_resA P i).toInt ≤ 400000000 := by
    unfold p_resA
    split
    · rw [z_i]; omega
    · rename_i q
      rw [lt_i, z_i] at q
      unfold p_dueOf at *
      omega
  unfold p_resC
  split
  · rename_i q
    rw [lt_i] at q
    omega
  · rename_i q
    rw [lt_i] at q
    omega
theorem ef_res1 (P : pP) (i : Nat) : Ef i P (p_res1 P i) := by
  refine ⟨fun f hf q hq => ?_, fun q => rfl, fun j => rfl⟩
  unfold p_res1
  rw [nL _ _ _ _ (by omega), rL, if_neg (fun e => hq e.2), rL, if_neg (fun e => hq e.2)]
theorem Bnd.res1 (h : Bnd t P) (hi : i < 60) (hp : pN P 3 (pN P 0 i) ≤ 10000) : Bnd t (p_res1 P i) := by
  obtain ⟨c1, c2, c3⟩ := resC_b h hp
  obtain ⟨b0, b1, b2, b3, b4⟩ := h.1 i
  have e3 : (pL P 3 i + p_resC P i).toInt = (pL P 3 i).toInt + (p_resC P i).toInt := add_i (by omega)
  have e4 : (pL P 4 i - p_resC P i).toInt = (pL P 4 i).toInt - (p_resC P i).toInt := sub_i (by omega)
  have r7 : pL (p_res1 P i) 7 0 = pL P 7 0 := rfl
  have r3 : pL (p_res1 P i) 3 i = pL P 3 i + p_resC P i := s2_self _ _ _ _
  have r4 : pL (p_res1 P i) 4 i = pL P 4 i - p_resC P i := s2_self _ _ _ _
  refine h.ef (ef_res1 P i) hi ⟨b0, b1, b2, ?_, ?_⟩ ?_ ?_
  · rw [r3, e3]; omega
  · rw [r4, e4]; omega
  · rw [r7]; exact h.2.2.1
  · rw [r7, r4, e4]; omega
theorem Bnd.resolve (h : Bnd t P) (hi : i < 60) (hp : pN P 3 (pN P 0 i) ≤ 10000) (b : Bool) : Bnd t (p_resolve b P i) := by
  unfold p_resolve
  split
  · exact h
  · have g := h.res1 hi hp
    exact g.release hi (g.1 i).2.2.2.2.1 (Int.le_refl _)
theorem Bnd.serveI (opn : pP → Nat → Bool) {r : Nat} : ∀ (m i : Nat) (P : pP) (acc : Int64), Bnd t P → i + m ≤ 60 → pN P 3 r ≤ 10000 → Bnd t (p_serveI opn r m i P acc).1
  | 0, _, _, _, h, _, _ => h
  | m + 1, i, P, acc, h, hm, hp => by
    unfold p_serveI
    split
    · exact Bnd.serveI opn m (i + 1) _ _ (h.serve (by omega) hp _) (by omega) hp
    · exact Bnd.serveI opn m (i + 1) P acc h (by omega) hp
theorem Bnd.serveR (opn : pP → Nat → Bool) : ∀ (m r : Nat) (P : pP) (acc : Int64), Bnd t P → pn P ≤ 60 → (∀ r, pN P 3 r ≤ 10000) → Bnd t (p_serveR opn m r P acc).1
  | 0, _, _, _, h, _, _ => h
  | m + 1, r, P, acc, h, hn, hp => by
    unfold p_serveR
    have s := sh_serveI opn r (pn P) 0 P acc
    refine Bnd.serveR opn m (r + 1) _ _ (Bnd.serveI opn (pn P) 0 P acc h (by omega) (hp r)) (by rw [s.1]; exact hn) (fun r => ?_)
    show (p_serveI opn _ (pn P) 0 P acc).1.2.1 3 r ≤ 10000
    rw [s.2.2]; exact hp r
theorem Bnd.resolves (opn : pP → Nat → Bool) : ∀ (m i : Nat) (P : pP), Bnd t P → i + m ≤ 60 → (∀ r, pN P 3 r ≤ 10000) → Bnd t (p_resolves opn m i P)
  | 0, _, _, h, _, _ => h
  | m + 1, i, P, h, hm, hp => by
    unfold p_resolves
    have s := sh_resolve (opn P i) P i
    refine Bnd.resolves opn m (i + 1) _ (h.resolve (by omega) (hp _) _) (by omega) (fun r => ?_)
    show (p_resolve (opn P i) P i).2.1 3 r ≤ 10000
    rw [s.2.2]; exact hp r
theorem Bnd.st (h : Bnd t P) (i : Nat) (x : Int32) : Bnd t (sI P 0 i x) := h
theorem Bnd.drop : ∀ (m i : Nat) (P : pP), Bnd t P → i + m ≤ 60 → Bnd t (p_drop m i P)
  | 0, _, _, h, _ => h
  | m + 1, i, P, h, hm => by
    unfold p_drop
    split
    · exact Bnd.drop m (i + 1) _ ((h.st i 2).release (P := sI P 0 i 2) (by omega) (h.1 i).2.2.2.2.1 (Int.le_refl _)) (by omega)
    · exact Bnd.drop m (i + 1) P h (by omega)
end INV2
