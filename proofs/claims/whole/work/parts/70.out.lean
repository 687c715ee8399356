/-! what a public call answers: the class of what it throws (0: nothing), the value, the state -/
abbrev oO : Type := Nat × Option Value × pP
def pQ (A : pP → mm_H → Prop) (o : oO) (r : mm_O × mm_H) : Prop := if o.1 = 0 then r.1 = .inl o.2.1 ∧ A o.2.2 r.2 else x_th o.1 (A o.2.2) r
theorem pQ_0 {A : pP → mm_H → Prop} {v : Option Value} {P : pP} {h : mm_H} (a : A P h) : pQ A (0, v, P) (.inl v, h) := ⟨rfl, a⟩
theorem pQ_x {A : pP → mm_H → Prop} {x : Nat} {v : Option Value} {P : pP} {r : mm_O × mm_H} (hx : x ≠ 0) (a : x_th x (A P) r) : pQ A (x, v, P) r := by
  unfold pQ
  rw [if_neg hx]
  exact a
theorem pQ_th {A : pP → mm_H → Prop} {x : Nat} {v : Option Value} {P : pP} {d k pc : Nat} {lv : mm_L} {st : List Value} {h : mm_H} (w : Wx d k pc lv st h (x_th x (A P))) (hx : x ≠ 0) : Wx d k pc lv st h (pQ A (x, v, P)) := w.mono (fun _ e => pQ_x hx e)
/-- the classes' cells hold P -/
abbrev RP (u v : Nat) (X : xX) (M : pP) (z : zZ) (P : pP) (h : mm_H) : Prop := Rep u v X P M z h
def g_cents (c least : Int64) : Bool := !decide (c < least) && decide (c ≤ 400000000)
theorem g_cents_t {c least : Int64} (h : g_cents c least = true) : ¬ c < least ∧ c ≤ 400000000 := by
  unfold g_cents at h
  simp only [Bool.and_eq_true, Bool.not_eq_true', decide_eq_false_iff_not, decide_eq_true_eq] at h
  exact h
theorem g_cents_f {c least : Int64} (h : g_cents c least = false) (h1 : ¬ c < least) : ¬ c ≤ 400000000 := by
  intro h2
  unfold g_cents at h
  rw [decide_eq_false h1, decide_eq_true h2] at h
  cases h
theorem x_swd {d k pc t len : Nat} {lv : mm_L} {r : List Value} {h : mm_H} {Q : mm_O × mm_H → Prop} {dflt lo hi : Int} {offs : Array Int} {x : Int32} (hc : t_cod k pc = some (.tableswitch dflt lo hi offs, len)) (hx : x.toInt < lo ∨ hi < x.toInt) (ht : mm_tgt pc dflt = some t) (w : Wx d k t lv r h Q) : Wx d k pc lv (.int x :: r) h Q :=
  x_step hc (by simp only [mm_step, mm_load, mm_store, mm_arith, mm_stack, mm_jump, if_pos hx, ht, Option.map_some]) w
/-! the public operations of the class -/
def o_owes (P : pP) (i : Nat) (n : Int64) : oO := if g_cents n 0 = false then (5, none, P) else if ¬ pI P 4 0 = 0 then (6, none, P) else if pI P 0 i = 2 then (6, none, P) else if p_fresh P i = true then (0, some (.long (pL (sL P 1 i (pL P 1 i + n)) 1 i)), sL P 1 i (pL P 1 i + n)) else (6, none, P)
def o_contest (P : pP) (i : Nat) : oO := if ¬ pI P 4 0 = 0 then (6, none, P) else if ¬ pI P 0 i = 0 then (6, none, P) else if p_fresh P i = true then (0, none, sI P 0 i 1) else (6, none, P)
def p_set (P : pP) (i : Nat) (n : Int64) : pP := if n = 0 then sI P 0 i 2 else sL (sI P 0 i 0) 0 i n
def p_above (P : pP) (i : Nat) : Int64 := if pL P 4 i - p_dueOf P i < 0 then 0 else pL P 4 i - p_dueOf P i
def o_settle (opn : pP → Nat → Bool) (P : pP) (i : Nat) (n : Int64) : oO := if n < 0 then (5, none, P) else if ¬ n ≤ pL P 0 i then (5, none, P) else if ¬ pI P 4 0 = 0 then (6, none, P) else if ¬ pI P 0 i = 1 then (6, none, P) else if opn (p_set P i n) i = true then (0, some (.long 0), p_release (p_set P i n) i (p_above (p_set P i n) i)) else (0, some (.long (p_resV (opn (p_set P i n) i) (p_set P i n) i)), p_resolve (opn (p_set P i n) i) (p_set P i n) i)
def o_cost (P : pP) (n : Int64) : oO := if g_cents n 0 = false then (5, none, P) else if ¬ pI P 4 0 = 0 then (6, none, P) else if ¬ n ≤ pL P 7 0 then (6, none, P) else (0, some (.long (pL P 7 0 - n)), p_note (sL (sL P 7 0 (pL P 7 0 - n)) 7 2 (pL P 7 2 + n)) 3 (-1) n)
def o_div (opn : pP → Nat → Bool) (P : pP) (r p : Nat) : oO := if ¬ pI P 4 0 = 0 then (6, none, P) else if p ≤ pN P 3 r then (6, none, P) else if p_blk P r (pn P) 0 = true then (6, none, P) else if ¬ p_need P r (nI p) (pn P) 0 0 ≤ pL P 7 0 then (8, none, P) else (0, some (.long (p_serveR opn (r + 1) 0 (sN P 3 r p) 0).2), (p_serveR opn (r + 1) 0 (sN P 3 r p) 0).1)
def o_catch (opn : pP → Nat → Bool) (P : pP) : oO := if ¬ pI P 4 0 = 0 then (6, none, P) else (0, some (.long (p_serveR opn (7 + 1) 0 P 0).2), (p_serveR opn (7 + 1) 0 P 0).1)
def p_real1 (P : pP) (j : Nat) (n : Int64) : pP := p_note (sL (sI P 1 j 1) 7 1 (pL P 7 1 + n)) 1 (nI j) n
def p_real2 (P : pP) (j : Nat) (n : Int64) : pP × Int64 := p_give j n (pN P 1 j) 0 (p_real1 P j n) 0
def p_real3 (P : pP) (j : Nat) (n : Int64) : pP := sL (p_real2 P j n).1 7 0 (pL (p_real2 P j n).1 7 0 + (n - (p_real2 P j n).2))
def o_real (opn : pP → Nat → Bool) (P : pP) (j : Nat) (n : Int64) : oO := if g_cents n 0 = false then (5, none, P) else if ¬ pI P 4 0 = 0 then (6, none, P) else if ¬ pI P 1 j = 0 then (6, none, P) else if p_cont P j (pN P 1 j) 0 = true then (6, none, P) else (0, some (.long (n - (p_real2 P j n).2)), p_resolves opn (pn (p_real3 P j n)) 0 (p_real3 P j n))
def p_great (P : pP) (r : Nat) : Nat → Nat → Nat
  | 0, b => b
  | m + 1, b => p_great P r m (if b + 2 ^ m ≤ 10000 ∧ p_need P r (nI (b + 2 ^ m)) (pn P) 0 0 ≤ pL P 7 0 then b + 2 ^ m else b)
def p_greatest (P : pP) (r : Nat) : Int32 := if ¬ pI P 4 0 = 0 then -1 else if p_blk P r (pn P) 0 = true then -1 else nI (p_great P r 14 (pN P 3 r))
