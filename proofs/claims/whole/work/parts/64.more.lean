section WX4
variable {d k pc : Nat} {lv : mm_L} {st r : List Value} {h : mm_H} {Q : mm_O × mm_H → Prop} {idx si ic t x : Nat}
theorem gen_h {A : mm_H → Prop} (a : A h) (w : ∀ h, A h → Wx d k pc lv st h Q) : Wx d k pc lv st h Q := w h a
def bI (b : Bool) : Int32 := cond b 1 0
theorem bI_0 {b : Bool} : bI b = 0 ↔ b = false := by cases b <;> decide
theorem bI_n0 {b : Bool} (h : ¬ bI b = 0) : b = true := by
  cases b with
  | true => rfl
  | false => exact absurd rfl h
theorem x_ldiv {x y : Int64} (hc : t_cod k pc = some (.ldiv, 1)) (hy : ¬ y = 0) (w : Wx d k (pc + 1) lv (.long (x / y) :: r) h Q) : Wx d k pc lv (.long y :: .long x :: r) h Q :=
  x_step hc (by simp only [mm_step, mm_load, mm_store, mm_arith, if_neg hy]) w
theorem x_lrem {x y : Int64} (hc : t_cod k pc = some (.lrem, 1)) (hy : ¬ y = 0) (w : Wx d k (pc + 1) lv (.long (x - x / y * y) :: r) h Q) : Wx d k pc lv (.long y :: .long x :: r) h Q :=
  x_step hc (by simp only [mm_step, mm_load, mm_store, mm_arith, if_neg hy]) w
theorem x_retb {b : Bool} (hc : t_cod k pc = some (.ireturn, 1)) (hr : t_rt k = some .boolean) (hq : Q (.inl (some (.int (bI b))), h)) : Wx d k pc lv [.int (bI b)] h Q := by
  refine x_ret hc rfl ?_ hq
  rw [hr]
  cases b <;> rfl
theorem x_throw {u v : Nat} {X : xX} {P M : pP} {z : zZ} (R : Rep (u + 1) v X P M z h) (hc : t_cod k pc = some (.new idx, 3)) (hx : t_exc (t_o k) idx = some x) (h3 : t_cod k (pc + 3) = some (.dup, 1)) (h4 : t_cod k (pc + 4) = some (.ldc si, 2)) (h6 : t_cod k (pc + 6) = some (.invokespecial ic, 3)) (h9 : t_cod k (pc + 9) = some (.athrow, 1))
    (hg : (Nat.ble (mm_w st) 12 && (t_str (t_o k) si && (t_ctr (t_o k) ic x && Nat.beq (t_hh k).length 0))) = true) (hn : t_cls (t_o k) idx = none) (hd : 6 ≤ d) : Wx d k pc lv st h (x_th x (Rep u v X P M z)) := by
  obtain ⟨b1, b2⟩ := R.2.2.1
  simp only [Bool.and_eq_true] at hg
  refine x_thr (h' := mm_push h 6 (.inl (x, []))) hc ?_ ?_ ?_ ⟨_, rfl, R.push _ (by omega)⟩
  · simp only [mm_step, mm_load, mm_store, mm_arith, mm_stack, mm_jump, mm_rd, mm_wr, mm_fa, hn]
  · unfold mm_ret
    split <;> first | rfl | contradiction
  · simp only [mm_thr, hx, h3, h4, h6, h9, hg.1, hg.2.1, hg.2.2.1, hg.2.2.2, Nat.ble_eq_true_of_le hd, Nat.ble_eq_true_of_le (show 1 ≤ h.2.1.1 by omega), Nat.ble_eq_true_of_le (show 6 ≤ h.2.1.2 by omega), Bool.true_and, cond_true]
end WX4
/-! what is told of a claim, an asset, the journal: the pure functions -/
def p_net (P : pP) (i : Nat) : Int64 := if pI P 0 i = 2 then 0 else if pL P 0 i - pL P 1 i - pL P 2 i < 0 then 0 else pL P 0 i - pL P 1 i - pL P 2 i
def p_due (P : pP) (i : Nat) (q : Int32) : Int64 := p_net P i * q.toInt64 / 10000
def p_lack (P : pP) (i : Nat) (q : Int32) : Int64 := if p_due P i q - pL P 3 i - pL P 4 i < 0 then 0 else p_due P i q - pL P 3 i - pL P 4 i
def p_unpaid (P : pP) (i : Nat) : Int64 := if p_net P i - pL P 3 i < 0 then 0 else p_net P i - pL P 3 i
def p_open (P : pP) (i : Nat) : Bool := decide (pI P 0 i = 1) || (!decide (pI P 0 i = 2) && !decide (pI P 5 i ≤ 0))
def p_fresh (P : pP) (i : Nat) : Bool := decide (pL P 3 i = 0) && decide (pL P 4 i = 0)
def p_has (P : pP) (j c : Nat) : Nat → Nat → Bool
  | 0, _ => false
  | m + 1, i => if pN P 2 (4 * j + i) = c then true else p_has P j c m (i + 1)
def p_cont (P : pP) (j : Nat) : Nat → Nat → Bool
  | 0, _ => false
  | m + 1, i => if pI P 0 (pN P 2 (4 * j + i)) = 1 then true else p_cont P j m (i + 1)
/-- one entry of the journal, none if nothing moved; all else stays by definition -/
def p_note (P : pP) (kk ow : Int32) (c : Int64) : pP :=
  ((pn P, pa P, if c = 0 then pj P else pj P + 1), P.2.1, (fun g e => if g = 2 then (if (¬ c = 0 ∧ pj P < 3000) ∧ e = pj P then kk else pI P 2 e) else if g = 3 then (if (¬ c = 0 ∧ pj P < 3000) ∧ e = pj P then ow else pI P 3 e) else pI P g e),
    (fun g e => if g = 6 then (if (¬ c = 0 ∧ pj P < 3000) ∧ e = pj P then c else pL P 6 e) else pL P g e))
theorem p_note_0 (P : pP) (kk ow : Int32) {c : Int64} (hc : c = 0) : p_note P kk ow c = P := by
  unfold p_note
  rw [if_pos hc]
  refine Prod.ext rfl (Prod.ext rfl (Prod.ext ?_ ?_))
  · funext g e
    by_cases h2 : g = 2
    · subst h2; simp [hc]
    · by_cases h3 : g = 3
      · subst h3; simp [hc]
      · simp [h2, h3]
  · funext g e
    by_cases h6 : g = 6
    · subst h6; simp [hc]
    · simp [h6]
theorem p_note_1 (P : pP) (kk ow : Int32) {c : Int64} (hc : ¬ c = 0) (hj : pj P < 3000) : p_note P kk ow c = sC (sL (sI (sI P 2 (pj P) kk) 3 (pj P) ow) 6 (pj P) c) (pn P) (pa P) (pj P + 1) := by
  unfold p_note
  rw [if_neg hc]
  refine Prod.ext rfl (Prod.ext rfl (Prod.ext ?_ ?_))
  · funext g e
    show _ = s2 (s2 P.2.2.1 2 (pj P) kk) 3 (pj P) ow g e
    unfold s2
    by_cases h2 : g = 2
    · subst h2; simp [hc, hj]
    · by_cases h3 : g = 3
      · subst h3; simp [hc, hj]
      · simp [h2, h3]
  · funext g e
    show _ = s2 P.2.2.2 6 (pj P) c g e
    unfold s2
    by_cases h6 : g = 6
    · subst h6; simp [hc, hj]
    · simp [h6]
theorem p_note_2 (P : pP) (kk ow : Int32) {c : Int64} (hc : ¬ c = 0) (hj : ¬ pj P < 3000) : p_note P kk ow c = sC P (pn P) (pa P) (pj P + 1) := by
  unfold p_note
  rw [if_neg hc]
  refine Prod.ext rfl (Prod.ext rfl (Prod.ext ?_ ?_))
  · funext g e
    show _ = P.2.2.1 g e
    by_cases h2 : g = 2
    · subst h2; simp [hj]
    · by_cases h3 : g = 3
      · subst h3; simp [hj]
      · simp [h2, h3]
  · funext g e
    show _ = P.2.2.2 g e
    by_cases h6 : g = 6
    · subst h6; simp [hj]
    · simp [h6]
def p_keeps (P : pP) (i : Int32) : Bool := !decide (i < 0) && (!decide (nI (pj P) ≤ i) && !decide (3000 ≤ i))
