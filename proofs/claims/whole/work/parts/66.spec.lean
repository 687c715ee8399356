/-! the pure operations; b, opn: whether a claim is open (class and reference find it out in their own ways) -/
def p_all (P : pP) (f : Nat) : Nat → Nat → Int64 → Int64
  | 0, _, acc => acc
  | m + 1, i, acc => p_all P f m (i + 1) (acc + pL P f i)
def p_blk (P : pP) (r : Nat) : Nat → Nat → Bool
  | 0, _ => false
  | m + 1, i => if pN P 0 i < r ∧ ¬ pI P 0 i = 2 ∧ ¬ pN P 3 (pN P 0 i) = 10000 then true else p_blk P r m (i + 1)
def p_need (P : pP) (r : Nat) (q : Int32) : Nat → Nat → Int64 → Int64
  | 0, _, acc => acc
  | m + 1, i, acc => if pN P 0 i < r then p_need P r q m (i + 1) (acc + p_lack P i (nI (pN P 3 (pN P 0 i)))) else if pN P 0 i = r then p_need P r q m (i + 1) (acc + p_lack P i q) else p_need P r q m (i + 1) acc
def p_dueOf (P : pP) (i : Nat) : Int64 := p_due P i (nI (pN P 3 (pN P 0 i)))
def p_serve (b : Bool) (P : pP) (i : Nat) (c : Int64) : pP := p_note (sL (sL P 7 0 (pL P 7 0 - c)) (cond b 4 3) i (cond b (pL P 4 i + c) (pL P 3 i + c))) (cond b 5 4) (nI i) c
def p_release (P : pP) (i : Nat) (c : Int64) : pP := p_note (sL (sL P 4 i (pL P 4 i - c)) 7 0 (pL P 7 0 + c)) 7 (nI i) c
def p_pay (P : pP) (i : Nat) (c : Int64) : pP := p_note (sL (sL P 7 0 (pL P 7 0 - c)) 3 i (pL P 3 i + c)) 8 (nI i) c
def p_resA (P : pP) (i : Nat) : Int64 := if p_dueOf P i - pL P 3 i < 0 then 0 else p_dueOf P i - pL P 3 i
def p_resC (P : pP) (i : Nat) : Int64 := if pL P 4 i < p_resA P i then pL P 4 i else p_resA P i
def p_res1 (P : pP) (i : Nat) : pP := p_note (sL (sL P 4 i (pL P 4 i - p_resC P i)) 3 i (pL P 3 i + p_resC P i)) 6 (nI i) (p_resC P i)
def p_resolve (b : Bool) (P : pP) (i : Nat) : pP := if b = true ∨ pL P 4 i = 0 then P else p_release (p_res1 P i) i (pL (p_res1 P i) 4 i)
def p_resV (b : Bool) (P : pP) (i : Nat) : Int64 := if b = true ∨ pL P 4 i = 0 then 0 else p_resC P i
def p_resolves (opn : pP → Nat → Bool) : Nat → Nat → pP → pP
  | 0, _, P => P
  | m + 1, i, P => p_resolves opn m (i + 1) (p_resolve (opn P i) P i)
def p_cents (P : pP) (i : Nat) (q : Int32) : Int64 := if pL P 7 0 < p_lack P i q then pL P 7 0 else p_lack P i q
def p_serveI (opn : pP → Nat → Bool) (r : Nat) : Nat → Nat → pP → Int64 → pP × Int64
  | 0, _, P, acc => (P, acc)
  | m + 1, i, P, acc => if pN P 0 i = r then p_serveI opn r m (i + 1) (p_serve (opn P i) P i (p_cents P i (nI (pN P 3 r)))) (acc + p_cents P i (nI (pN P 3 r))) else p_serveI opn r m (i + 1) P acc
def p_serveR (opn : pP → Nat → Bool) : Nat → Nat → pP → Int64 → pP × Int64
  | 0, _, P, acc => (P, acc)
  | m + 1, r, P, acc => p_serveR opn m (r + 1) (p_serveI opn r (pn P) 0 P acc).1 (p_serveI opn r (pn P) 0 P acc).2
/-- the part of a security -/
def p_part (P : pP) (q : Nat) (left : Int64) : Int64 := if left < (if p_net P (pN P 2 q) < pL P 5 q then p_net P (pN P 2 q) else pL P 5 q) then left else (if p_net P (pN P 2 q) < pL P 5 q then p_net P (pN P 2 q) else pL P 5 q)
def p_give1 (P : pP) (i : Nat) (c : Int64) : pP := p_note (sI (sL P 2 i (pL P 2 i + c)) 5 i (pI P 5 i - 1)) 2 (nI i) c
def p_give (j : Nat) (cents : Int64) : Nat → Nat → pP → Int64 → pP × Int64
  | 0, _, P, acc => (P, acc)
  | m + 1, k, P, acc => p_give j cents m (k + 1) (p_give1 P (pN P 2 (4 * j + k)) (p_part P (4 * j + k) (cents - acc))) (acc + p_part P (4 * j + k) (cents - acc))
def p_drop : Nat → Nat → pP → pP
  | 0, _, P => P
  | m + 1, i, P => p_drop m (i + 1) (if pI P 0 i = 1 then p_release (sI P 0 i 2) i (pL P 4 i) else P)
def p_sumU (P : pP) (r : Nat) : Nat → Nat → Int64 → Int64
  | 0, _, acc => acc
  | m + 1, i, acc => p_sumU P r m (i + 1) (if pN P 0 i = r then acc + p_unpaid P i else acc)
def p_pays (r : Nat) : Nat → Nat → pP → pP
  | 0, _, P => P
  | m + 1, i, P => p_pays r m (i + 1) (if pN P 0 i = r then p_pay P i (p_unpaid P i) else P)
/-- the counts and what is kept as Nat stay -/
def Sh (P P' : pP) : Prop := pn P' = pn P ∧ pa P' = pa P ∧ P'.2.1 = P.2.1
theorem Sh.refl (P : pP) : Sh P P := ⟨rfl, rfl, rfl⟩
theorem Sh.trans {P P' P'' : pP} (a : Sh P P') (b : Sh P' P'') : Sh P P'' := ⟨b.1.trans a.1, b.2.1.trans a.2.1, b.2.2.trans a.2.2⟩
theorem sh_serveI (opn : pP → Nat → Bool) (r : Nat) : ∀ (m i : Nat) (P : pP) (acc : Int64), Sh P (p_serveI opn r m i P acc).1
  | 0, _, P, _ => Sh.refl P
  | m + 1, i, P, acc => by
    unfold p_serveI
    split
    · exact Sh.trans ⟨rfl, rfl, rfl⟩ (sh_serveI opn r m (i + 1) _ _)
    · exact sh_serveI opn r m (i + 1) P acc
theorem sh_serveR (opn : pP → Nat → Bool) : ∀ (m r : Nat) (P : pP) (acc : Int64), Sh P (p_serveR opn m r P acc).1
  | 0, _, P, _ => Sh.refl P
  | m + 1, r, P, acc => by
    unfold p_serveR
    exact Sh.trans (sh_serveI opn r _ 0 P acc) (sh_serveR opn m (r + 1) _ _)
theorem sh_resolve (b : Bool) (P : pP) (i : Nat) : Sh P (p_resolve b P i) := by
  unfold p_resolve
  split
  · exact Sh.refl P
  · exact ⟨rfl, rfl, rfl⟩
theorem sh_resolves (opn : pP → Nat → Bool) : ∀ (m i : Nat) (P : pP), Sh P (p_resolves opn m i P)
  | 0, _, P => Sh.refl P
  | m + 1, i, P => by
    unfold p_resolves
    exact Sh.trans (sh_resolve _ P i) (sh_resolves opn m (i + 1) _)
theorem sh_give (j : Nat) (cents : Int64) : ∀ (m k : Nat) (P : pP) (acc : Int64), Sh P (p_give j cents m k P acc).1
  | 0, _, P, _ => Sh.refl P
  | m + 1, k, P, acc => by
    unfold p_give
    exact Sh.trans ⟨rfl, rfl, rfl⟩ (sh_give j cents m (k + 1) _ _)
theorem sh_drop : ∀ (m i : Nat) (P : pP), Sh P (p_drop m i P)
  | 0, _, P => Sh.refl P
  | m + 1, i, P => by
    unfold p_drop
    refine Sh.trans ?_ (sh_drop m (i + 1) _)
    split
    · exact ⟨rfl, rfl, rfl⟩
    · exact Sh.refl P
theorem sh_pays (r : Nat) : ∀ (m i : Nat) (P : pP), Sh P (p_pays r m i P)
  | 0, _, P => Sh.refl P
  | m + 1, i, P => by
    unfold p_pays
    refine Sh.trans ?_ (sh_pays r m (i + 1) _)
    split
    · exact ⟨rfl, rfl, rfl⟩
    · exact Sh.refl P
