/-! THE PURE STATE that class and reference share: counts (claims, assets, entries); then by field number and index:
Nat: 0 rank (claim), 1 securities (asset), 2 holder (4 * asset + place), 3 percentage (rank)
Int32: 0 state (claim), 1 realised (asset), 2 kind, 3 owner (entry), 4 ended (0), 5 unrealised securities (claim; the class alone)
Int64: 0 amount, 1 debt, 2 got, 3 paid, 4 reserved (claim), 5 limit (4 * asset + place), 6 cents (entry), 7 cash, income, spent (0, 1, 2) -/
abbrev pP : Type := (Nat × Nat × Nat) × (Nat → Nat → Nat) × (Nat → Nat → Int32) × (Nat → Nat → Int64)
abbrev pn (P : pP) : Nat := P.1.1
abbrev pa (P : pP) : Nat := P.1.2.1
abbrev pj (P : pP) : Nat := P.1.2.2
abbrev pN (P : pP) (f i : Nat) : Nat := P.2.1 f i
abbrev pI (P : pP) (f i : Nat) : Int32 := P.2.2.1 f i
abbrev pL (P : pP) (f i : Nat) : Int64 := P.2.2.2 f i
def s2 {α : Type} (F : Nat → Nat → α) (f i : Nat) (v : α) : Nat → Nat → α := fun g j => if g = f ∧ j = i then v else F g j
theorem s2_self {α : Type} (F : Nat → Nat → α) (f i : Nat) (v : α) : s2 F f i v f i = v := by simp [s2]
theorem s2_f {α : Type} (F : Nat → Nat → α) {f g : Nat} (i j : Nat) (v : α) (h : g ≠ f) : s2 F f i v g j = F g j := by simp [s2, h]
theorem s2_i {α : Type} (F : Nat → Nat → α) (f g : Nat) {i j : Nat} (v : α) (h : j ≠ i) : s2 F f i v g j = F g j := by simp [s2, h]
theorem s2_id {α : Type} (F : Nat → Nat → α) (f i : Nat) : s2 F f i (F f i) = F := by
  funext g j
  unfold s2
  split
  · rename_i e; rw [e.1, e.2]
  · rfl
def sC (P : pP) (n a j : Nat) : pP := ((n, a, j), P.2)
def sN (P : pP) (f i : Nat) (v : Nat) : pP := (P.1, s2 P.2.1 f i v, P.2.2)
def sI (P : pP) (f i : Nat) (v : Int32) : pP := (P.1, P.2.1, s2 P.2.2.1 f i v, P.2.2.2)
def sL (P : pP) (f i : Nat) (v : Int64) : pP := (P.1, P.2.1, P.2.2.1, s2 P.2.2.2 f i v)
/-- where the cells lie (by tag), how many rows of the last sharing the class has, the script -/
abbrev xX : Type := (Nat → Nat) × Nat × Nat × (Nat → Int32)
/-- the reference's code; rows: 0 lefts, 1 shares, 2 overs (reference), 3 shares, 4 remainders (class), 5 out (law) -/
abbrev zZ : Type := Int32 × (Nat → Nat → Int64)
def fx (X : xX) (P : pP) : List Value := [.ref (X.1 1), .int (nI (pn P)), .ref (X.1 2), .int (nI (pa P)), .ref (X.1 3), .ref (X.1 4), .long (pL P 7 0), .long (pL P 7 1), .long (pL P 7 2), .int (pI P 4 0)]
def fj (X : xX) (P : pP) : List Value := [.ref (X.1 5), .ref (X.1 6), .ref (X.1 7), .int (nI (pj P))]
def fm (X : xX) (M : pP) (z : zZ) : List Value := [.int z.1, .int (pI M 4 0), .int (nI (pn M)), .ref (X.1 9), .ref (X.1 10), .ref (X.1 11), .ref (X.1 12), .ref (X.1 13), .ref (X.1 14), .ref (X.1 15), .int (nI (pa M)), .ref (X.1 16), .ref (X.1 17), .ref (X.1 18), .ref (X.1 19), .ref (X.1 20), .long (pL M 7 0), .long (pL M 7 1), .long (pL M 7 2), .int (nI (pj M)), .ref (X.1 21), .ref (X.1 22), .ref (X.1 23), .ref (X.1 24), .ref (X.1 25), .ref (X.1 26)]
def fc (P : pP) (i : Nat) : List Value := [.int (nI i), .int (nI (pN P 0 i)), .int (pI P 0 i), .long (pL P 0 i), .long (pL P 1 i), .long (pL P 2 i), .long (pL P 3 i), .long (pL P 4 i), .int (pI P 5 i)]
def fa (X : xX) (P : pP) (j : Nat) : List Value := [.ref (X.1 (300 + j)), .ref (X.1 (400 + j)), .int (nI (pN P 1 j)), .int (pI P 1 j)]
def ct0 (X : xX) (P M : pP) (z : zZ) : List mm_C := [.inl (0, fx X P), .inr (3, 60, fun i => if i < pn P then .ref (X.1 (100 + i)) else .null), .inr (4, 20, fun j => if j < pa P then .ref (X.1 (200 + j)) else .null), .inr (0, 8, fun r => .int (nI (pN P 3 r))), .inl (3, fj X P), .inr (0, 3000, fun e => .int (pI P 2 e)), .inr (0, 3000, fun e => .int (pI P 3 e)), .inr (1, 3000, fun e => .long (pL P 6 e)),
  .inl (4, fm X M z), .inr (0, 60, fun i => .int (nI (pN M 0 i))), .inr (1, 60, fun i => .long (pL M 0 i)), .inr (1, 60, fun i => .long (pL M 1 i)), .inr (1, 60, fun i => .long (pL M 2 i)), .inr (1, 60, fun i => .long (pL M 3 i)), .inr (1, 60, fun i => .long (pL M 4 i)), .inr (0, 60, fun i => .int (pI M 0 i)), .inr (2, 20, fun j => .int (pI M 1 j)), .inr (0, 20, fun j => .int (nI (pN M 1 j))), .inr (0, 80, fun q => .int (nI (pN M 2 q))), .inr (1, 80, fun q => .long (pL M 5 q)), .inr (0, 8, fun r => .int (nI (pN M 3 r))), .inr (0, 3000, fun e => .int (pI M 2 e)), .inr (0, 3000, fun e => .int (pI M 3 e)), .inr (1, 3000, fun e => .long (pL M 6 e)),
  .inr (1, 60, fun i => .long (z.2 0 i)), .inr (1, 60, fun i => .long (z.2 1 i)), .inr (1, 60, fun i => .long (z.2 2 i)), .inr (1, 1, fun i => .long (z.2 5 i)), .inr (5, X.2.2.1, fun i => .int (X.2.2.2 i)), .inr (1, pn P, fun i => .long (z.2 3 i)), .inr (1, pn P, fun i => .long (z.2 4 i))]
def ctC (P : pP) (i : Nat) : mm_C := .inl (1, fc P i)
def ctA (X : xX) (P : pP) (j : Nat) : mm_C := .inl (2, fa X P j)
def ctH (X : xX) (P : pP) (j : Nat) : mm_C := .inr (3, 4, fun k => if k < pN P 1 j then .ref (X.1 (100 + pN P 2 (4 * j + k))) else .null)
def ctL (P : pP) (j : Nat) : mm_C := .inr (1, 4, fun k => if k < 4 then .long (pL P 5 (4 * j + k)) else .long 0)
def ct (X : xX) (P M : pP) (z : zZ) (t : Nat) : mm_C := if t < 100 then (ct0 X P M z).getD t (.inl (9, [])) else if t < 200 then ctC P (t - 100) else if t < 300 then ctA X P (t - 200) else if t < 400 then ctH X P (t - 300) else ctL P (t - 400)
/-- which tags have a cell -/
def lv (X : xX) (P : pP) (t : Nat) : Prop := t < 29 + X.2.1 ∨ (100 ≤ t ∧ t < 100 + pn P) ∨ (200 ≤ t ∧ t < 200 + pa P) ∨ (300 ≤ t ∧ t < 300 + pa P) ∨ (400 ≤ t ∧ t < 400 + pa P)
def wf (v : Nat) (P : pP) : Prop := pn P ≤ 60 ∧ pa P ≤ 20 ∧ pj P + v ≤ 2 ^ 30 ∧ (∀ i, i < pn P → pN P 0 i < 8) ∧ (∀ j, j < pa P → pN P 1 j ≤ 4) ∧ (∀ j, j < pa P → ∀ k, k < pN P 1 j → pN P 2 (4 * j + k) < pn P) ∧ (∀ r, pN P 3 r ≤ 10000)
/-- the heap holds P in the class's cells and M in the reference's; u things more may be made, v entries more may be noted -/
def Rep (u v : Nat) (X : xX) (P M : pP) (z : zZ) (h : mm_H) : Prop :=
  (∀ t, lv X P t → h.2.2 (X.1 t) = some (ct X P M z t) ∧ X.1 t < h.1) ∧ (∀ t t', lv X P t → lv X P t' → X.1 t = X.1 t' → t = t') ∧ (u ≤ h.2.1.1 ∧ 60 * u ≤ h.2.1.2) ∧ wf v P ∧ wf v M ∧ X.2.1 ≤ 2
section REP
variable {u v : Nat} {X : xX} {P P' M M' : pP} {z z' : zZ} {h : mm_H} {i j t0 : Nat} {c : mm_C}
theorem Rep.wP (R : Rep u v X P M z h) : wf v P := R.2.2.2.1
theorem Rep.wM (R : Rep u v X P M z h) : wf v M := R.2.2.2.2.1
theorem Rep.n60 (R : Rep u v X P M z h) : pn P ≤ 60 := R.wP.1
theorem Rep.a20 (R : Rep u v X P M z h) : pa P ≤ 20 := R.wP.2.1
theorem Rep.m60 (R : Rep u v X P M z h) : pn M ≤ 60 := R.wM.1
theorem Rep.b20 (R : Rep u v X P M z h) : pa M ≤ 20 := R.wM.2.1
theorem wf.rk {v : Nat} (h : wf v P) {i : Nat} (hi : i < pn P) : pN P 0 i < 8 := h.2.2.2.1 i hi
theorem wf.mn {v : Nat} (h : wf v P) {j : Nat} (hj : j < pa P) : pN P 1 j ≤ 4 := h.2.2.2.2.1 j hj
theorem wf.hd {v : Nat} (h : wf v P) {j k : Nat} (hj : j < pa P) (hk : k < pN P 1 j) : pN P 2 (4 * j + k) < pn P := h.2.2.2.2.2.1 j hj k hk
theorem wf.pc {v : Nat} (h : wf v P) (r : Nat) : pN P 3 r ≤ 10000 := h.2.2.2.2.2.2 r
theorem wf.less {v v' : Nat} (h : wf v P) (hv : v' ≤ v) : wf v' P := ⟨h.1, h.2.1, Nat.le_trans (Nat.add_le_add_left hv _) h.2.2.1, h.2.2.2⟩
theorem Rep.less {u' v' : Nat} (R : Rep u v X P M z h) (hu : u' ≤ u) (hv : v' ≤ v) : Rep u' v' X P M z h :=
  ⟨R.1, R.2.1, ⟨Nat.le_trans hu R.2.2.1.1, Nat.le_trans (Nat.mul_le_mul_left 60 hu) R.2.2.1.2⟩, R.wP.less hv, R.wM.less hv, R.2.2.2.2.2⟩
theorem Rep.c0 (R : Rep u v X P M z h) : h.2.2 (X.1 0) = some (.inl (0, fx X P)) := (R.1 0 (Or.inl (by omega))).1
theorem Rep.c1 (R : Rep u v X P M z h) : h.2.2 (X.1 1) = some (.inr (3, 60, fun i => if i < pn P then .ref (X.1 (100 + i)) else .null)) := (R.1 1 (Or.inl (by omega))).1
theorem Rep.c2 (R : Rep u v X P M z h) : h.2.2 (X.1 2) = some (.inr (4, 20, fun j => if j < pa P then .ref (X.1 (200 + j)) else .null)) := (R.1 2 (Or.inl (by omega))).1
theorem Rep.c3 (R : Rep u v X P M z h) : h.2.2 (X.1 3) = some (.inr (0, 8, fun r => .int (nI (pN P 3 r)))) := (R.1 3 (Or.inl (by omega))).1
theorem Rep.c4 (R : Rep u v X P M z h) : h.2.2 (X.1 4) = some (.inl (3, fj X P)) := (R.1 4 (Or.inl (by omega))).1
theorem Rep.c5 (R : Rep u v X P M z h) : h.2.2 (X.1 5) = some (.inr (0, 3000, fun e => .int (pI P 2 e))) := (R.1 5 (Or.inl (by omega))).1
theorem Rep.c6 (R : Rep u v X P M z h) : h.2.2 (X.1 6) = some (.inr (0, 3000, fun e => .int (pI P 3 e))) := (R.1 6 (Or.inl (by omega))).1
theorem Rep.c7 (R : Rep u v X P M z h) : h.2.2 (X.1 7) = some (.inr (1, 3000, fun e => .long (pL P 6 e))) := (R.1 7 (Or.inl (by omega))).1
theorem Rep.c8 (R : Rep u v X P M z h) : h.2.2 (X.1 8) = some (.inl (4, fm X M z)) := (R.1 8 (Or.inl (by omega))).1
theorem Rep.c9 (R : Rep u v X P M z h) : h.2.2 (X.1 9) = some (.inr (0, 60, fun i => .int (nI (pN M 0 i)))) := (R.1 9 (Or.inl (by omega))).1
theorem Rep.c10 (R : Rep u v X P M z h) : h.2.2 (X.1 10) = some (.inr (1, 60, fun i => .long (pL M 0 i))) := (R.1 10 (Or.inl (by omega))).1
theorem Rep.c11 (R : Rep u v X P M z h) : h.2.2 (X.1 11) = some (.inr (1, 60, fun i => .long (pL M 1 i))) := (R.1 11 (Or.inl (by omega))).1
theorem Rep.c12 (R : Rep u v X P M z h) : h.2.2 (X.1 12) = some (.inr (1, 60, fun i => .long (pL M 2 i))) := (R.1 12 (Or.inl (by omega))).1
theorem Rep.c13 (R : Rep u v X P M z h) : h.2.2 (X.1 13) = some (.inr (1, 60, fun i => .long (pL M 3 i))) := (R.1 13 (Or.inl (by omega))).1
theorem Rep.c14 (R : Rep u v X P M z h) : h.2.2 (X.1 14) = some (.inr (1, 60, fun i => .long (pL M 4 i))) := (R.1 14 (Or.inl (by omega))).1
theorem Rep.c15 (R : Rep u v X P M z h) : h.2.2 (X.1 15) = some (.inr (0, 60, fun i => .int (pI M 0 i))) := (R.1 15 (Or.inl (by omega))).1
theorem Rep.c16 (R : Rep u v X P M z h) : h.2.2 (X.1 16) = some (.inr (2, 20, fun j => .int (pI M 1 j))) := (R.1 16 (Or.inl (by omega))).1
theorem Rep.c17 (R : Rep u v X P M z h) : h.2.2 (X.1 17) = some (.inr (0, 20, fun j => .int (nI (pN M 1 j)))) := (R.1 17 (Or.inl (by omega))).1
theorem Rep.c18 (R : Rep u v X P M z h) : h.2.2 (X.1 18) = some (.inr (0, 80, fun q => .int (nI (pN M 2 q)))) := (R.1 18 (Or.inl (by omega))).1
theorem Rep.c19 (R : Rep u v X P M z h) : h.2.2 (X.1 19) = some (.inr (1, 80, fun q => .long (pL M 5 q))) := (R.1 19 (Or.inl (by omega))).1
theorem Rep.c20 (R : Rep u v X P M z h) : h.2.2 (X.1 20) = some (.inr (0, 8, fun r => .int (nI (pN M 3 r)))) := (R.1 20 (Or.inl (by omega))).1
theorem Rep.c21 (R : Rep u v X P M z h) : h.2.2 (X.1 21) = some (.inr (0, 3000, fun e => .int (pI M 2 e))) := (R.1 21 (Or.inl (by omega))).1
theorem Rep.c22 (R : Rep u v X P M z h) : h.2.2 (X.1 22) = some (.inr (0, 3000, fun e => .int (pI M 3 e))) := (R.1 22 (Or.inl (by omega))).1
theorem Rep.c23 (R : Rep u v X P M z h) : h.2.2 (X.1 23) = some (.inr (1, 3000, fun e => .long (pL M 6 e))) := (R.1 23 (Or.inl (by omega))).1
theorem Rep.c24 (R : Rep u v X P M z h) : h.2.2 (X.1 24) = some (.inr (1, 60, fun i => .long (z.2 0 i))) := (R.1 24 (Or.inl (by omega))).1
theorem Rep.c25 (R : Rep u v X P M z h) : h.2.2 (X.1 25) = some (.inr (1, 60, fun i => .long (z.2 1 i))) := (R.1 25 (Or.inl (by omega))).1
theorem Rep.c26 (R : Rep u v X P M z h) : h.2.2 (X.1 26) = some (.inr (1, 60, fun i => .long (z.2 2 i))) := (R.1 26 (Or.inl (by omega))).1
theorem Rep.c27 (R : Rep u v X P M z h) : h.2.2 (X.1 27) = some (.inr (1, 1, fun i => .long (z.2 5 i))) := (R.1 27 (Or.inl (by omega))).1
theorem Rep.c28 (R : Rep u v X P M z h) : h.2.2 (X.1 28) = some (.inr (5, X.2.2.1, fun i => .int (X.2.2.2 i))) := (R.1 28 (Or.inl (by omega))).1
theorem Rep.c29 (R : Rep u v X P M z h) (hw : X.2.1 = 2) : h.2.2 (X.1 29) = some (.inr (1, pn P, fun i => .long (z.2 3 i))) := (R.1 29 (Or.inl (by omega))).1
theorem Rep.c30 (R : Rep u v X P M z h) (hw : X.2.1 = 2) : h.2.2 (X.1 30) = some (.inr (1, pn P, fun i => .long (z.2 4 i))) := (R.1 30 (Or.inl (by omega))).1
theorem ct_C (hi : i < 100) : ct X P M z (100 + i) = ctC P i := by
  unfold ct
  rw [if_neg (by omega), if_pos (by omega), Nat.add_sub_cancel_left]
theorem ct_A (hi : i < 100) : ct X P M z (200 + i) = ctA X P i := by
  unfold ct
  rw [if_neg (by omega), if_neg (by omega), if_pos (by omega), Nat.add_sub_cancel_left]
theorem ct_H (hi : i < 100) : ct X P M z (300 + i) = ctH X P i := by
  unfold ct
  rw [if_neg (by omega), if_neg (by omega), if_neg (by omega), if_pos (by omega), Nat.add_sub_cancel_left]
theorem ct_L (hi : i < 100) : ct X P M z (400 + i) = ctL P i := by
  unfold ct
  rw [if_neg (by omega), if_neg (by omega), if_neg (by omega), if_neg (by omega), Nat.add_sub_cancel_left]
theorem Rep.cC (R : Rep u v X P M z h) (hi : i < pn P) : h.2.2 (X.1 (100 + i)) = some (.inl (1, fc P i)) := by
  have := R.n60
  rw [(R.1 (100 + i) (Or.inr (Or.inl (by omega)))).1, ct_C (by omega)]
  rfl
theorem Rep.cA (R : Rep u v X P M z h) (hi : i < pa P) : h.2.2 (X.1 (200 + i)) = some (.inl (2, fa X P i)) := by
  have := R.a20
  rw [(R.1 (200 + i) (Or.inr (Or.inr (Or.inl (by omega))))).1, ct_A (by omega)]
  rfl
theorem Rep.cH (R : Rep u v X P M z h) (hi : i < pa P) : h.2.2 (X.1 (300 + i)) = some (.inr (3, 4, fun k => if k < pN P 1 i then .ref (X.1 (100 + pN P 2 (4 * i + k))) else .null)) := by
  have := R.a20
  rw [(R.1 (300 + i) (Or.inr (Or.inr (Or.inr (Or.inl (by omega)))))).1, ct_H (by omega)]
  rfl
theorem Rep.cL (R : Rep u v X P M z h) (hi : i < pa P) : h.2.2 (X.1 (400 + i)) = some (.inr (1, 4, fun k => if k < 4 then .long (pL P 5 (4 * i + k)) else .long 0)) := by
  have := R.a20
  rw [(R.1 (400 + i) (Or.inr (Or.inr (Or.inr (Or.inr (by omega)))))).1, ct_L (by omega)]
  rfl
/-- a write at the tag t0 that takes P, M, z to P', M', z' -/
theorem Rep.upd {v' : Nat} (R : Rep u v X P M z h) (h0 : lv X P t0) (hl : ∀ t, lv X P' t → lv X P t) (hc : ct X P' M' z' t0 = c) (ho : ∀ t, lv X P t → t ≠ t0 → ct X P' M' z' t = ct X P M z t) (wP : wf v' P') (wM : wf v' M') : Rep u v' X P' M' z' (mm_upd h (X.1 t0) c) := by
  refine ⟨fun t ht => ?_, fun t t' ht ht' e => R.2.1 t t' (hl t ht) (hl t' ht') e, R.2.2.1, wP, wM, R.2.2.2.2.2⟩
  have ht' := hl t ht
  refine ⟨?_, (R.1 t ht').2⟩
  by_cases e : t = t0
  · subst e
    rw [mm_upd_self, hc]
  · rw [mm_upd_ne _ _ (fun hx => e (R.2.1 t t0 ht' h0 hx)), (R.1 t ht').1, ho t ht' e]
theorem Rep.injC {a b : Nat} (R : Rep u v X P M z h) (ha : a < pn P) (hb : b < pn P) (e : X.1 (100 + a) = X.1 (100 + b)) : a = b := by
  have := R.2.1 _ _ (Or.inr (Or.inl (by omega))) (Or.inr (Or.inl (by omega))) e
  omega
theorem ct_tag (hl : ct0 X P' M' z' = (ct0 X P M z).set t0 c) (hC : ∀ i, ctC P' i = ctC P i) (hA : ∀ j, ctA X P' j = ctA X P j) (hH : ∀ j, ctH X P' j = ctH X P j) (hL : ∀ j, ctL P' j = ctL P j) : ∀ t, lv X P t → t ≠ t0 → ct X P' M' z' t = ct X P M z t := by
  intro t _ ht
  unfold ct
  rw [hl, hC, hA, hH, hL, List.getD_eq_getElem?_getD, List.getD_eq_getElem?_getD, List.getElem?_set_ne (Ne.symm ht)]
theorem ct_claim (hl : ct0 X P' M z = ct0 X P M z) (hC : ∀ q, q ≠ i → ctC P' q = ctC P q) (hA : ∀ j, ctA X P' j = ctA X P j) (hH : ∀ j, ctH X P' j = ctH X P j) (hL : ∀ j, ctL P' j = ctL P j) : ∀ t, lv X P t → t ≠ 100 + i → ct X P' M z t = ct X P M z t := by
  intro t _ ht
  unfold ct
  rw [hl, hA, hH, hL]
  split
  · rfl
  · split
    · exact hC _ (by omega)
    · rfl
theorem ct_asset (hl : ct0 X P' M z = ct0 X P M z) (hC : ∀ q, ctC P' q = ctC P q) (hA : ∀ q, q ≠ j → ctA X P' q = ctA X P q) (hH : ∀ j, ctH X P' j = ctH X P j) (hL : ∀ j, ctL P' j = ctL P j) : ∀ t, lv X P t → t ≠ 200 + j → ct X P' M z t = ct X P M z t := by
  intro t _ ht
  unfold ct
  rw [hl, hC, hH, hL]
  split
  · rfl
  · split
    · rfl
    · split
      · exact hA _ (by omega)
      · rfl
end REP
