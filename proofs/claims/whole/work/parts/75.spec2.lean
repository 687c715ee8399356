/-! the last sharing, as the class does it -/
def oI : Option Nat → Int32
  | none => -1
  | some k => nI k
theorem nI_m1 {k : Nat} (h : k < 2 ^ 31) : ¬ nI k = -1 := by
  intro e
  have := nI_pos' h
  rw [e] at this
  exact absurd this (by decide)
theorem nz_of {y : Int64} (h : ¬ y ≤ 0) : ¬ y = 0 := fun e => h (by rw [e]; exact Int64.le_refl 0)
def p_bst (B : Nat → Int64) : Nat → Nat → Option Nat → Int64 → Option Nat × Int64
  | 0, _, o, g => (o, g)
  | m + 1, i, o, g => if B i ≤ g then p_bst B m (i + 1) o g else p_bst B m (i + 1) (some i) (B i)
theorem p_bst_lt (B : Nat → Int64) : ∀ (m i : Nat) (o : Option Nat) (g : Int64) (n k : Nat), i + m = n → (∀ k, o = some k → k < n) → (p_bst B m i o g).1 = some k → k < n
  | 0, i, o, g, n, k, _, ho, h => ho k h
  | m + 1, i, o, g, n, k, hm, ho, h => by
    unfold p_bst at h
    split at h
    · exact p_bst_lt B m (i + 1) o g n k (by omega) ho h
    · exact p_bst_lt B m (i + 1) (some i) (B i) n k (by omega) (fun k e => by cases e; omega) h
def p_add (n : Nat) : Nat → (Nat → Int64) → (Nat → Int64) → (Nat → Int64) × (Nat → Int64)
  | 0, A, B => (A, B)
  | m + 1, A, B => match (p_bst B n 0 none 0).1 with
    | none => (A, B)
    | some k => p_add n m (uF A k (A k + 1)) (uF B k 0)
def p_sh (P : pP) (r : Nat) (all pot : Int64) : Nat → Nat → (Nat → Int64) → (Nat → Int64) → Int64 → ((Nat → Int64) × (Nat → Int64)) × Int64
  | 0, _, A, B, l => ((A, B), l)
  | m + 1, i, A, B, l => if pN P 0 i = r then (if all ≤ 0 then p_sh P r all pot m (i + 1) A B l else p_sh P r all pot m (i + 1) (uF A i (p_unpaid P i * pot / all)) (uF B i (p_unpaid P i * pot - p_unpaid P i * pot / all * all)) (l - uF A i (p_unpaid P i * pot / all) i)) else p_sh P r all pot m (i + 1) A B l
def p_payA (A : Nat → Int64) : Nat → Nat → pP → pP
  | 0, _, P => P
  | m + 1, i, P => p_payA A m (i + 1) (p_pay P i (A i))
def p_sh0 (P : pP) (r : Nat) (all : Int64) : ((Nat → Int64) × (Nat → Int64)) × Int64 := p_sh P r all (pL P 7 0) (pn P) 0 (fun _ => 0) (fun _ => 0) (pL P 7 0)
def p_shA (P : pP) (r : Nat) (all : Int64) : (Nat → Int64) × (Nat → Int64) := p_add (pn P) (p_sh0 P r all).2.toInt.toNat (p_sh0 P r all).1.1 (p_sh0 P r all).1.2
def p_share (P : pP) (r : Nat) (all : Int64) : pP := p_payA (p_shA P r all).1 (pn P) 0 P
def p_rank (P : pP) (r : Nat) : pP := if p_sumU P r (pn P) 0 0 ≤ pL P 7 0 then p_pays r (pn P) 0 P else p_share P r (p_sumU P r (pn P) 0 0)
def p_ranks : Nat → Nat → pP → pP
  | 0, _, P => P
  | m + 1, r, P => p_ranks m (r + 1) (p_rank P r)
def p_unr (P : pP) : Nat → Nat → Bool
  | 0, _ => false
  | m + 1, j => if pI P 1 j = 0 then true else p_unr P m (j + 1)
def p_end1 (opn : pP → Nat → Bool) (P : pP) : pP := (p_serveR opn (7 + 1) 0 (p_drop (pn P) 0 P) 0).1
def p_end2 (opn : pP → Nat → Bool) (P : pP) : pP := p_ranks 8 0 (p_end1 opn P)
def o_end (opn : pP → Nat → Bool) (P : pP) : oO := if ¬ pI P 4 0 = 0 then (6, none, P) else if p_unr P (pa P) 0 = true then (6, none, P) else (0, some (.long (pL (p_end2 opn P) 7 0)), sI (p_end2 opn P) 4 0 1)
theorem sh_payA (A : Nat → Int64) : ∀ (m i : Nat) (P : pP), Sh P (p_payA A m i P)
  | 0, _, P => Sh.refl P
  | m + 1, i, P => by
    unfold p_payA
    exact Sh.trans ⟨rfl, rfl, rfl⟩ (sh_payA A m (i + 1) _)
theorem sh_rank (P : pP) (r : Nat) : Sh P (p_rank P r) := by
  unfold p_rank
  split
  · exact sh_pays r _ 0 P
  · exact sh_payA _ _ 0 P
theorem dec_step {c l : Int64} {m : Nat} (h : (l.toInt - c.toInt).toNat = m + 1) : ¬ l ≤ c ∧ (l.toInt - (c + 1).toInt).toNat = m := by
  have hl := Int64.toInt_lt l
  have hc := Int64.le_toInt c
  have h1 : c.toInt < l.toInt := by omega
  have e : (c + 1).toInt = c.toInt + 1 := by
    rw [Int64.toInt_add, show (1 : Int64).toInt = 1 from by decide]
    exact Int.bmod_eq_of_le (by omega) (by omega)
  refine ⟨fun q => ?_, by rw [e]; omega⟩
  rw [Int64.le_iff_toInt_le] at q
  omega
