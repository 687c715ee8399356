section INV3
variable {t v : Nat} {P P' P'' : pP} {i j q p : Nat}
/-! realise -/
theorem sI_comm (P : pP) {f g : Nat} (hf : f ≠ g) (i j : Nat) (a b : Int32) : sI (sI P f i a) g j b = sI (sI P g j b) f i a := by
  unfold sI
  refine Prod.ext rfl (Prod.ext rfl (Prod.ext ?_ rfl))
  funext x y
  show s2 (s2 P.2.2.1 f i a) g j b x y = s2 (s2 P.2.2.1 g j b) f i a x y
  unfold s2
  by_cases h1 : x = f ∧ y = i
  · have h2 : ¬ (x = g ∧ y = j) := fun e => hf (h1.1.symm.trans e.1)
    simp only [if_pos h1, if_neg h2]
  · simp only [if_neg h1]
theorem note_7 (P : pP) (k : Nat) (x : Int64) (a b : Int32) (c : Int64) : p_note (sL P 7 k x) a b c = sL (p_note P a b c) 7 k x := by
  unfold p_note sL
  refine Prod.ext rfl (Prod.ext rfl (Prod.ext rfl ?_))
  funext g e
  show (if g = 6 then (if (¬ c = 0 ∧ pj P < 3000) ∧ e = pj P then c else s2 P.2.2.2 7 k x 6 e) else s2 P.2.2.2 7 k x g e) = s2 (fun g e => if g = 6 then (if (¬ c = 0 ∧ pj P < 3000) ∧ e = pj P then c else pL P 6 e) else pL P g e) 7 k x g e
  unfold s2
  by_cases h6 : g = 6
  · subst h6; simp
  · by_cases h7 : g = 7 ∧ e = k
    · simp only [if_neg h6, if_pos h7]
    · simp only [if_neg h6, if_neg h7]
theorem note_1 (P : pP) (j : Nat) (x : Int32) (a b : Int32) (c : Int64) : p_note (sI P 1 j x) a b c = sI (p_note P a b c) 1 j x := by
  unfold p_note sI
  refine Prod.ext rfl (Prod.ext rfl (Prod.ext ?_ rfl))
  funext g e
  show (if g = 2 then (if (¬ c = 0 ∧ pj P < 3000) ∧ e = pj P then a else s2 P.2.2.1 1 j x 2 e) else if g = 3 then (if (¬ c = 0 ∧ pj P < 3000) ∧ e = pj P then b else s2 P.2.2.1 1 j x 3 e) else s2 P.2.2.1 1 j x g e) = s2 (fun g e => if g = 2 then (if (¬ c = 0 ∧ pj P < 3000) ∧ e = pj P then a else pI P 2 e) else if g = 3 then (if (¬ c = 0 ∧ pj P < 3000) ∧ e = pj P then b else pI P 3 e) else pI P g e) 1 j x g e
  unfold s2
  by_cases h2 : g = 2
  · subst h2; simp
  · by_cases h3 : g = 3
    · subst h3; simp
    · simp only [if_neg h2, if_neg h3]
theorem give1_1 (P : pP) (j : Nat) (x : Int32) (i : Nat) (c : Int64) : p_give1 (sI P 1 j x) i c = sI (p_give1 P i c) 1 j x := by
  unfold p_give1
  rw [show sI (sL (sI P 1 j x) 2 i (pL (sI P 1 j x) 2 i + c)) 5 i (pI (sI P 1 j x) 5 i - 1) = sI (sI (sL P 2 i (pL P 2 i + c)) 1 j x) 5 i (pI P 5 i - 1) from rfl, sI_comm _ (by decide), note_1]
theorem give_1 (j : Nat) (n : Int64) (j' : Nat) (x : Int32) : ∀ (m k : Nat) (P : pP) (acc : Int64), p_give j n m k (sI P 1 j' x) acc = (sI (p_give j n m k P acc).1 1 j' x, (p_give j n m k P acc).2)
  | 0, _, _, _ => rfl
  | m + 1, k, P, acc => by
    unfold p_give
    rw [show p_part (sI P 1 j' x) (4 * j + k) (n - acc) = p_part P (4 * j + k) (n - acc) from rfl, show pN (sI P 1 j' x) 2 (4 * j + k) = pN P 2 (4 * j + k) from rfl, give1_1, give_1 j n j' x m (k + 1)]
theorem real1_eq (P : pP) (j : Nat) (n : Int64) : p_real1 P j n = sI (m_real1 P j n) 1 j 1 := by
  unfold p_real1 m_real1
  rw [note_7, note_1]
  rfl
theorem real2_eq (P : pP) (j : Nat) (n : Int64) : p_real2 P j n = (sI (m_real2 P j n).1 1 j 1, (m_real2 P j n).2) := by
  unfold p_real2 m_real2
  rw [real1_eq, give_1]
theorem real3_eq (P : pP) (j : Nat) (n : Int64) : p_real3 P j n = m_real3 P j n := by
  unfold p_real3 m_real3
  rw [real2_eq]
  rfl
theorem real_eq (opn : pP → Nat → Bool) (P : pP) (j : Nat) (n : Int64) : o_real opn P j n = m_real opn P j n := by
  unfold o_real m_real
  rw [real3_eq, real2_eq]
/-- what giving leaves alone -/
theorem give_f (j : Nat) (n : Int64) : ∀ (m k : Nat) (P : pP) (acc : Int64), (∀ q, pI (p_give j n m k P acc).1 0 q = pI P 0 q) ∧ (∀ q, pI (p_give j n m k P acc).1 1 q = pI P 1 q) ∧ (∀ f, f ≠ 2 → f ≠ 6 → ∀ q, pL (p_give j n m k P acc).1 f q = pL P f q) ∧ (∀ q, (∀ x, x < m → pN P 2 (4 * j + (k + x)) ≠ q) → pL (p_give j n m k P acc).1 2 q = pL P 2 q ∧ pI (p_give j n m k P acc).1 5 q = pI P 5 q) ∧ pI (p_give j n m k P acc).1 4 0 = pI P 4 0
  | 0, _, _, _ => ⟨fun _ => rfl, fun _ => rfl, fun _ _ _ _ => rfl, fun _ _ => ⟨rfl, rfl⟩, rfl⟩
  | m + 1, k, P, acc => by
    unfold p_give
    obtain ⟨a, b, c, d, e⟩ := give_f j n m (k + 1) (p_give1 P (pN P 2 (4 * j + k)) (p_part P (4 * j + k) (n - acc))) (acc + p_part P (4 * j + k) (n - acc))
    refine ⟨fun q => (a q).trans rfl, fun q => (b q).trans rfl, fun f h1 h2 q => (c f h1 h2 q).trans ?_, fun q hq => ?_, e.trans rfl⟩
    · unfold p_give1
      rw [nL _ _ _ _ h2]
      show pL (sL P 2 _ _) f q = _
      rw [rL, if_neg (fun e => h1 e.1)]
    · obtain ⟨d1, d2⟩ := d q (fun x hx => by have := hq (x + 1) (by omega); rw [show k + (x + 1) = k + 1 + x by omega] at this; exact this)
      have h0 := hq 0 (by omega)
      refine ⟨d1.trans ?_, d2.trans ?_⟩
      · show pL (sL P 2 _ _) 2 q = _
        rw [rL, if_neg (fun e => h0 e.2.symm)]
      · show pI (sI (sL P 2 _ _) 5 _ _) 5 q = _
        rw [rI, if_neg (fun e => h0 e.2.symm)]
        rfl
theorem sub_sub32 (a b c : Int32) : a - b - c = a - (b + c) := by
  apply Int32.toBitVec_inj.mp
  simp only [Int32.toBitVec_sub, Int32.toBitVec_add]
  exact BitVec.sub_sub _ _ _
theorem give_5 (j : Nat) (n : Int64) (i : Nat) : ∀ (m k : Nat) (P : pP) (acc : Int64), pI (p_give j n m k P acc).1 5 i = pI P 5 i - nI (occ (fun q => pN P 2 q) i m (4 * j + k))
  | 0, _, P, _ => by
    show pI P 5 i = pI P 5 i - 0
    rw [Int32.sub_zero]
  | m + 1, k, P, acc => by
    unfold p_give occ
    rw [give_5 j n i m (k + 1)]
    show pI (sI (sL P 2 _ _) 5 (pN P 2 (4 * j + k)) (pI P 5 (pN P 2 (4 * j + k)) - 1)) 5 i - nI (occ (fun q => pN P 2 q) i m (4 * j + (k + 1))) = _
    rw [rI]
    by_cases e : i = pN P 2 (4 * j + k)
    · rw [if_pos ⟨rfl, e⟩, if_pos e.symm, ← e, sub_sub32, ← nI_add]
      rfl
    · rw [if_neg (fun x => e x.2), if_neg (fun x => e x.symm), Nat.zero_add]
      rfl
theorem ocA_ext {H N : Nat → Nat} {Z Z' : Nat → Int32} {c : Nat} : ∀ (m j : Nat), (∀ x, j ≤ x → x < j + m → Z' x = Z x) → ocA H N Z' c m j = ocA H N Z c m j
  | 0, _, _ => rfl
  | m + 1, j, h => by
    unfold ocA
    rw [h j (Nat.le_refl _) (by omega), ocA_ext m (j + 1) (fun x h1 h2 => h x (by omega) (by omega))]
theorem ocA_upd {H N : Nat → Nat} {Z Z' : Nat → Int32} {c q : Nat} (h0 : Z q = 0) (h1 : ¬ Z' q = 0) (hz : ∀ x, x ≠ q → Z' x = Z x) : ∀ (m j : Nat), j ≤ q → q < j + m → ocA H N Z c m j = ocA H N Z' c m j + occ H c (N q) (4 * q)
  | 0, _, a, b => by omega
  | m + 1, j, a, b => by
    unfold ocA
    by_cases e : j = q
    · subst e
      rw [if_pos h0, if_neg h1, ocA_ext (Z := Z) (Z' := Z') m (j + 1) (fun x h1 h2 => hz x (by omega))]
      omega
    · rw [hz j e, ocA_upd h0 h1 hz m (j + 1) (by omega) (by omega)]
      omega
theorem part_b (h : Bnd t P) {q : Nat} {l : Int64} (hl : 0 ≤ l.toInt) : 0 ≤ (p_part P q l).toInt ∧ (p_part P q l).toInt ≤ l.toInt ∧ (p_part P q l).toInt ≤ (p_net P (pN P 2 q)).toInt := by
  obtain ⟨n1, n2, _⟩ := net_b (h.1 (pN P 2 q))
  have l5 := h.2.1 q
  unfold p_part
  by_cases h1 : p_net P (pN P 2 q) < pL P 5 q
  · simp only [if_pos h1]
    rw [lt_i] at h1
    split
    · rename_i q; rw [lt_i] at q; omega
    · rename_i q; rw [lt_i] at q; omega
  · simp only [if_neg h1]
    rw [lt_i] at h1
    split
    · rename_i q; rw [lt_i] at q; omega
    · rename_i q; rw [lt_i] at q; omega
theorem Bnd.give (j : Nat) {n : Int64} (hn : 0 ≤ n.toInt ∧ n.toInt ≤ 400000000) : ∀ (m k : Nat) (P : pP) (acc : Int64), Bnd t P → 0 ≤ acc.toInt → acc.toInt ≤ n.toInt → (∀ x, x < m → pN P 2 (4 * j + (k + x)) < 60) → Bnd t (p_give j n m k P acc).1 ∧ 0 ≤ (p_give j n m k P acc).2.toInt ∧ (p_give j n m k P acc).2.toInt ≤ n.toInt
  | 0, _, _, _, h, a, b, _ => ⟨h, a, b⟩
  | m + 1, k, P, acc, h, a, b, hh => by
    unfold p_give
    have e0 : (n - acc).toInt = n.toInt - acc.toInt := sub_i (by omega)
    obtain ⟨p1, p2, p3⟩ := part_b (q := 4 * j + k) h (l := n - acc) (by omega)
    have hi := hh 0 (by omega)
    rw [Nat.add_zero] at hi
    obtain ⟨n1, n2, n3⟩ := net_b (h.1 (pN P 2 (4 * j + k)))
    obtain ⟨b0, b1, b2, b3, b4⟩ := h.1 (pN P 2 (4 * j + k))
    generalize p_part P (4 * j + k) (n - acc) = c at *
    generalize hx : pN P 2 (4 * j + k) = x at *
    have e1 : (acc + c).toInt = acc.toInt + c.toInt := add_i (by omega)
    have e2 : (pL P 2 x + c).toInt = (pL P 2 x).toInt + c.toInt := add_i (by omega)
    refine Bnd.give j hn m (k + 1) (p_give1 P x c) (acc + c) ?_ (by omega) (by omega) (fun y hy => by have := hh (y + 1) (by omega); rw [show k + (y + 1) = k + 1 + y by omega] at this; exact this)
    have r2 : pL (p_give1 P x c) 2 x = pL P 2 x + c := s2_self _ _ _ _
    have r4 : pL (p_give1 P x c) 4 x = pL P 4 x := rfl
    have r7 : pL (p_give1 P x c) 7 0 = pL P 7 0 := rfl
    refine h.ef (i := x) ⟨fun f hf q hq => ?_, fun q => rfl, fun j => rfl⟩ hi ⟨b0, b1, ?_, b3, b4⟩ ?_ ?_
    · unfold p_give1
      rw [nL _ _ _ _ (by omega)]
      show pL (sL P 2 x _) f q = _
      rw [rL, if_neg (fun e => hq e.2)]
    · rw [r2, e2]; omega
    · rw [r7]; exact h.2.2.1
    · rw [r7, r4]; omega
theorem Bnd.real3 (h : Bnd t P) (w : wf v P) (hj : j < pa P) (h0 : pI P 1 j = 0) {n : Int64} (hn : 0 ≤ n.toInt ∧ n.toInt ≤ 400000000) : Bnd t (m_real3 P j n) := by
  have b1 : Bnd t (m_real1 P j n) := h
  have mn := w.mn hj
  obtain ⟨g, g1, g2⟩ := Bnd.give j hn (pN P 1 j) 0 (m_real1 P j n) 0 b1 (by decide) (by rw [z_i]; omega) (fun x hx => by
    have := w.hd hj (k := 0 + x) (by omega)
    have := w.1
    show pN P 2 (4 * j + (0 + x)) < 60
    omega)
  obtain ⟨f1, f2, f3, f4, f5⟩ := give_f j n (pN P 1 j) 0 (m_real1 P j n) 0
  have c := h.cash
  have e7 : pL (m_real2 P j n).1 7 0 = pL P 7 0 := f3 7 (by decide) (by decide) 0
  have e0 : (n - (m_real2 P j n).2).toInt = n.toInt - (m_real2 P j n).2.toInt := sub_i (by unfold m_real2; omega)
  have e8 : (pL P 7 0 + (n - (m_real2 P j n).2)).toInt = (pL P 7 0).toInt + (n.toInt - (m_real2 P j n).2.toInt) := by
    rw [add_i (by rw [e0]; unfold m_real2; omega), e0]
  refine ⟨g.1, g.2.1, ?_, ?_⟩
  · show 0 ≤ (pL (m_real2 P j n).1 7 0 + (n - (m_real2 P j n).2)).toInt
    rw [e7, e8]
    unfold m_real2
    omega
  · have t1 : Tt (m_real3 P j n) = (pL P 7 0 + (n - (m_real2 P j n).2)).toInt + sm (fun i => (pL P 4 i).toInt) 60 0 := by
      unfold Tt
      rw [show pL (m_real3 P j n) 7 0 = pL (m_real2 P j n).1 7 0 + (n - (m_real2 P j n).2) from rfl, e7]
      congr 1
      refine sm_ext 60 0 (fun x _ _ => ?_)
      show (pL (m_real2 P j n).1 4 x).toInt = _
      rw [show pL (m_real2 P j n).1 4 x = pL P 4 x from f3 4 (by decide) (by decide) x]
    have t2 : Gg (m_real3 P j n) = Gg P + 400000000 := by
      unfold Gg
      have a20 := w.2.1
      have ij : pI (m_real3 P j n) 1 j = 1 := s2_self _ _ _ _
      have i1 : ∀ x, x ≠ j → pI (m_real3 P j n) 1 x = pI P 1 x := fun x hx => by
        show pI (sI (sL (m_real2 P j n).1 7 0 _) 1 j 1) 1 x = _
        rw [rI, if_neg (fun e => hx e.2)]
        exact f2 x
      rw [sm_upd (f := fun j => if pI P 1 j = 0 then (0 : Int) else 400000000) (g := fun j' => if pI (m_real3 P j n) 1 j' = 0 then (0 : Int) else 400000000) (q := j) (fun x hx => by simp only [i1 x hx]) 20 0 (by omega) (by omega)]
      simp only [ij, h0]
      rw [if_neg (by decide), if_pos trivial]
      omega
    have h4 := h.2.2.2
    rw [t1, t2, e8]
    unfold Tt at h4
    unfold m_real2
    omega
theorem sh_real3 (P : pP) (j : Nat) (n : Int64) : Sh P (m_real3 P j n) := Sh.trans (P' := m_real1 P j n) ⟨rfl, rfl, rfl⟩ (Sh.trans (sh_give j n (pN P 1 j) 0 (m_real1 P j n) 0) ⟨rfl, rfl, rfl⟩)
theorem Bas.real3 (h : Bas P) (w : wf v P) (hj : j < pa P) (h0 : pI P 1 j = 0) (n : Int64) : Bas (m_real3 P j n) := by
  obtain ⟨f1, f2, f3, f4, f5⟩ := give_f j n (pN P 1 j) 0 (m_real1 P j n) 0
  have mn := w.mn hj
  obtain ⟨s1, s2, s3⟩ := sh_real3 P j n
  have i1 : ∀ x, x ≠ j → pI (m_real3 P j n) 1 x = pI P 1 x := fun x hx => by
    show pI (sI (sL (m_real2 P j n).1 7 0 _) 1 j 1) 1 x = _
    rw [rI, if_neg (fun e => hx e.2)]
    exact f2 x
  refine ⟨fun i => ?_, fun i hi => ?_, fun x hx => ?_⟩
  · have e := give_5 j n i (pN P 1 j) 0 (m_real1 P j n) 0
    have o := h.1 i
    have u := ocA_upd (H := fun q => pN P 2 q) (N := fun j => pN P 1 j) (Z := fun j => pI P 1 j) (Z' := fun x => pI (m_real3 P j n) 1 x) (c := i) (q := j) h0 (by
      show ¬ pI (sI (sL (m_real2 P j n).1 7 0 _) 1 j 1) 1 j = 0
      rw [rI, if_pos ⟨rfl, rfl⟩]
      decide) i1 (pa P) 0 (by omega) (by omega)
    show pI (m_real2 P j n).1 5 i = _
    unfold m_real2
    rw [e, show pI (m_real1 P j n) 5 i = pI P 5 i from rfl, o, u, s2]
    have e1 : (fun q => pN (m_real3 P j n) 2 q) = fun q => pN P 2 q := by funext q; show (m_real3 P j n).2.1 2 q = P.2.1 2 q; rw [s3]
    have e2 : (fun q => pN (m_real3 P j n) 1 q) = fun q => pN P 1 q := by funext q; show (m_real3 P j n).2.1 1 q = P.2.1 1 q; rw [s3]
    rw [e1, e2, show (fun q => pN (m_real1 P j n) 2 q) = fun q => pN P 2 q from rfl, Nat.add_zero, pk_sub (by omega), Nat.add_sub_cancel]
  · rw [s1] at hi
    obtain ⟨z1, z2, z3, z4, z5, z6⟩ := h.2.1 i hi
    have d := f4 i (fun x hx e => by
      have a := w.hd hj (k := 0 + x) (by omega)
      have e : pN P 2 (4 * j + (0 + x)) = i := e
      omega)
    exact ⟨(f1 i).trans z1, (f3 1 (by decide) (by decide) i).trans z2, d.1.trans z3, (f3 3 (by decide) (by decide) i).trans z4, (f3 4 (by decide) (by decide) i).trans z5, d.2.trans z6⟩
  · rw [s2] at hx
    obtain ⟨z1, z2, z3⟩ := h.2.2 x hx
    refine ⟨?_, (i1 x (by omega)).trans z2, fun k hk => (f3 5 (by decide) (by decide) _).trans (z3 k hk)⟩
    show (m_real3 P j n).2.1 1 x = 0
    rw [s3]; exact z1
end INV3
