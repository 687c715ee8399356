/-! what a public call answers: the class of what it throws (0: nothing), the value, the state -/
abbrev oO : Type := Nat × Option Value × pP
def pQ (A : pP → mm_H → Prop) (o : oO) (r : mm_O × mm_H) : Prop := if o.1 = 0 then r.1 = .inl o.2.1 ∧ A o.2.2 r.2 else x_th o.1 (A o.2.2) r
theorem pQ_0 {A : pP → mm_H → Prop} {v : Option Value} {P : pP} {h : mm_H} (a : A P h) : pQ A (0, v, P) (.inl v, h) := ⟨rfl, a⟩
theorem pQ_x {A : pP → mm_H → Prop} {x : Nat} {v : Option Value} {P : pP} {r : mm_O × mm_H} (hx : x ≠ 0) (a : x_th x (A P) r) : pQ A (x, v, P) r := by
  unfold pQ
  rw [if_neg hx]
  exact a
theorem pQ_th {A : pP → mm_H → Prop} {x : Nat} {v : Option Value} {P : pP} {d k pc : Nat} {lv : mm_L} {st : List Value} {h : mm_H} (w : Wx d k pc lv st h (x_th x (A P))) (hx : x ≠ 0) : Wx d k pc lv st h (pQ A (x, v, P)) := w.mono (fun _ e => pQ_x hx e)
/-- the classes' cells hold P -/
abbrev RP (u v : Nat) (X : xX) (M : pP) (z : zZ) (P : pP) (h : mm_H) : Prop := Rep u v X P M z h
def g_cents (c least : Int64) : Bool := !decide (c < least) && decide (c ≤ 400000000)
theorem g_cents_t {c least : Int64} (h : g_cents c least = true) : ¬ c < least ∧ c ≤ 400000000 := by
  unfold g_cents at h
  simp only [Bool.and_eq_true, Bool.not_eq_true', decide_eq_false_iff_not, decide_eq_true_eq] at h
  exact h
theorem g_cents_f {c least : Int64} (h : g_cents c least = false) (h1 : ¬ c < least) : ¬ c ≤ 400000000 := by
  intro h2
  unfold g_cents at h
  rw [decide_eq_false h1, decide_eq_true h2] at h
  cases h
