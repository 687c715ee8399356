/-! what the reference asks and does: pure -/
def g_in (x lo hi : Int64) : Bool := !decide (x < lo) && decide (x ≤ hi)
/-- an index of n things -/
def m_is (n : Nat) (q : Int32) : Bool := g_in q.toInt64 0 (nI n - 1).toInt64
def m_rk (q : Int32) : Bool := g_in q.toInt64 0 7
theorem m1_toInt {n : Nat} (hn : n < 2 ^ 30) : ((nI n - 1).toInt64).toInt = (n : Int) - 1 := by
  rw [Int32.toInt_toInt64]
  exact pk_sub_toInt (b := 1) hn (by omega)
theorem g_in_iff {x lo hi : Int64} : g_in x lo hi = true ↔ lo.toInt ≤ x.toInt ∧ x.toInt ≤ hi.toInt := by
  unfold g_in
  simp only [Bool.and_eq_true, Bool.not_eq_true', decide_eq_false_iff_not, decide_eq_true_eq, Int64.lt_iff_toInt_lt, Int64.le_iff_toInt_le]
  omega
theorem m_is_t {n i : Nat} (hi : i < n) (hn : n < 2 ^ 30) : m_is n (nI i) = true := by
  unfold m_is
  rw [g_in_iff, m1_toInt hn, Int32.toInt_toInt64, nI_toInt (by omega), show (0 : Int64).toInt = 0 from by decide]
  omega
theorem m_is_f {n : Nat} {q : Int32} (hn : n < 2 ^ 30) (hq : q < 0 ∨ nI n ≤ q) : m_is n q = false := by
  rw [Bool.eq_false_iff]
  unfold m_is
  rw [Ne, g_in_iff, m1_toInt hn, Int32.toInt_toInt64, show (0 : Int64).toInt = 0 from by decide]
  rw [Int32.lt_iff_toInt_lt, Int32.le_iff_toInt_le, nI_toInt (by omega), show (0 : Int32).toInt = 0 from by decide] at hq
  omega
theorem m_rk_t {r : Nat} (hr : r < 8) : m_rk (nI r) = true := by
  unfold m_rk
  rw [g_in_iff, Int32.toInt_toInt64, nI_toInt (by omega), show (0 : Int64).toInt = 0 from by decide, show (7 : Int64).toInt = 7 from by decide]
  omega
theorem m_rk_f {q : Int32} (hq : q < 0 ∨ 8 ≤ q) : m_rk q = false := by
  rw [Bool.eq_false_iff]
  unfold m_rk
  rw [Ne, g_in_iff, Int32.toInt_toInt64, show (0 : Int64).toInt = 0 from by decide, show (7 : Int64).toInt = 7 from by decide]
  rw [Int32.lt_iff_toInt_lt, Int32.le_iff_toInt_le, show (0 : Int32).toInt = 0 from by decide, show (8 : Int32).toInt = 8 from by decide] at hq
  omega
/-- is c a holder: holders, first index, how many -/
def p_hs (H : Nat → Nat) (c : Nat) : Nat → Nat → Bool
  | 0, _ => false
  | m + 1, q => if H q = c then true else p_hs H c m (q + 1)
theorem p_hs_has (P : pP) (j c : Nat) : ∀ m i, p_hs (fun q => pN P 2 q) c m (4 * j + i) = p_has P j c m i
  | 0, _ => rfl
  | m + 1, i => by
    unfold p_hs p_has
    rw [show 4 * j + i + 1 = 4 * j + (i + 1) from rfl, p_hs_has P j c m (i + 1)]
/-- an asset that is not realised and holds c, among m assets from j on -/
def p_op (H N : Nat → Nat) (Z : Nat → Int32) (c : Nat) : Nat → Nat → Bool
  | 0, _ => false
  | m + 1, j => if Z j = 0 ∧ p_hs H c (N j) (4 * j) = true then true else p_op H N Z c m (j + 1)
def p_openM (P : pP) (c : Nat) : Bool := (decide (pI P 0 c = 1) || p_op (fun q => pN P 2 q) (fun j => pN P 1 j) (fun j => pI P 1 j) c (pa P) 0) && !decide (pI P 0 c = 2)
/-- what the reference answers: code, value, state -/
abbrev mO : Type := Int32 × Option Value × pP
def mQ (u v : Nat) (X : xX) (P : pP) (z : zZ) (o : mO) (r : mm_O × mm_H) : Prop := r.1 = .inl o.2.1 ∧ ∃ s : Nat → Nat → Int64, (∀ q, s 5 q = z.2 5 q) ∧ Rep u v X P o.2.2 (o.1, s) r.2
def mo (f : Nat → Int32) (dv : Option Value) (o : oO) : mO := (f o.1, if o.1 = 0 then o.2.1 else dv, o.2.2)
def cd (a b c : Nat) (e : Nat := 99) (x : Nat) : Int32 := if x = a then 1 else if x = b then 2 else if x = c then 3 else if x = e then 4 else 0
theorem mQ_i {u v : Nat} {X : xX} {P M : pP} {z : zZ} {h : mm_H} {c : Int32} {vv : Option Value} {s : Nat → Nat → Int64} (R : Rep u v X P M (c, s) h) (hs : ∀ q, s 5 q = z.2 5 q) : mQ u v X P z (c, vv, M) (.inl vv, h) := ⟨rfl, s, hs, R⟩
theorem sL_comm (P : pP) {f g : Nat} (hf : f ≠ g) (i j : Nat) (a b : Int64) : sL (sL P f i a) g j b = sL (sL P g j b) f i a := by
  unfold sL
  refine Prod.ext rfl (Prod.ext rfl (Prod.ext rfl ?_))
  funext x y
  show s2 (s2 P.2.2.2 f i a) g j b x y = s2 (s2 P.2.2.2 g j b) f i a x y
  unfold s2
  by_cases h1 : x = f ∧ y = i
  · have h2 : ¬ (x = g ∧ y = j) := fun e => hf (h1.1.symm.trans e.1)
    simp only [if_pos h1, if_neg h2]
  · simp only [if_neg h1]
theorem sL_id (P : pP) (f i : Nat) : sL P f i (pL P f i) = P := by
  unfold sL
  rw [s2_id]
theorem serve_0 (b : Bool) (P : pP) (i : Nat) : p_serve b P i 0 = P := by
  unfold p_serve
  rw [p_note_0 _ _ _ rfl, Int64.sub_zero, sL_id]
  cases b
  · show sL P 3 i (pL P 3 i + 0) = P
    rw [Int64.add_zero, sL_id]
  · show sL P 4 i (pL P 4 i + 0) = P
    rw [Int64.add_zero, sL_id]
theorem lack_pos (P : pP) (i : Nat) (q : Int32) : 0 ≤ p_lack P i q := by
  unfold p_lack
  split
  · decide
  · rename_i h
    exact Int64.not_lt.mp h
theorem cents_pos {P : pP} (i : Nat) (q : Int32) (h : 0 ≤ pL P 7 0) : 0 ≤ p_cents P i q := by
  unfold p_cents
  split
  · exact h
  · exact lack_pos P i q
theorem cents_le (P : pP) (i : Nat) (q : Int32) : p_cents P i q ≤ pL P 7 0 := by
  unfold p_cents
  split
  · exact Int64.le_refl _
  · rename_i h
    exact Int64.not_lt.mp h
theorem sub_pos64 {a b : Int64} (h : 0 ≤ b) (h2 : b ≤ a) : 0 ≤ a - b := by
  rw [Int64.le_iff_toInt_le] at *
  have ha := Int64.toInt_lt a
  rw [show (0 : Int64).toInt = 0 from by decide] at *
  rw [Int64.toInt_sub, Int.bmod_eq_of_le (by omega) (by omega)]
  omega
theorem cash_ok {P : pP} (i : Nat) (q : Int32) (h : 0 ≤ pL P 7 0) : 0 ≤ pL P 7 0 - p_cents P i q := sub_pos64 (cents_pos i q h) (cents_le P i q)
theorem serve_cash (b : Bool) (P : pP) (i : Nat) (c : Int64) : pL (p_serve b P i c) 7 0 = pL P 7 0 - c := by cases b <;> rfl
theorem serve_cash0 (b : Bool) {P : pP} (i : Nat) (q : Int32) (h : 0 ≤ pL P 7 0) : 0 ≤ pL (p_serve b P i (p_cents P i q)) 7 0 := by
  rw [serve_cash]
  exact cash_ok i q h
