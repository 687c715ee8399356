/-! what holds of every state that a run of calls reaches -/
section INV
variable {t v : Nat} {P P' P'' : pP} {i j q p : Nat}
theorem add_i {a b : Int64} (h : -9223372036854775808 ≤ a.toInt + b.toInt ∧ a.toInt + b.toInt < 9223372036854775808) : (a + b).toInt = a.toInt + b.toInt := by
  rw [Int64.toInt_add]
  exact Int.bmod_eq_of_le (by omega) (by omega)
theorem sub_i {a b : Int64} (h : -9223372036854775808 ≤ a.toInt - b.toInt ∧ a.toInt - b.toInt < 9223372036854775808) : (a - b).toInt = a.toInt - b.toInt := by
  rw [Int64.toInt_sub]
  exact Int.bmod_eq_of_le (by omega) (by omega)
theorem mul_i {a b : Int64} (h : -9223372036854775808 ≤ a.toInt * b.toInt ∧ a.toInt * b.toInt < 9223372036854775808) : (a * b).toInt = a.toInt * b.toInt := by
  rw [Int64.toInt_mul]
  exact Int.bmod_eq_of_le (by omega) (by omega)
theorem div_i {a b : Int64} (ha : 0 ≤ a.toInt) (hb : 0 < b.toInt) : (a / b).toInt = a.toInt / b.toInt := by
  have h1 := Int64.toInt_lt a
  have h2 : a.toInt / b.toInt ≤ a.toInt := Int.ediv_le_self _ ha
  have h3 : 0 ≤ a.toInt / b.toInt := Int.ediv_nonneg ha (by omega)
  rw [Int64.toInt_div, Int.tdiv_eq_ediv_of_nonneg ha]
  exact Int.bmod_eq_of_le (by omega) (by omega)
theorem le_i {a b : Int64} : a ≤ b ↔ a.toInt ≤ b.toInt := Int64.le_iff_toInt_le
theorem lt_i {a b : Int64} : a < b ↔ a.toInt < b.toInt := Int64.lt_iff_toInt_lt
theorem z_i : (0 : Int64).toInt = 0 := by decide
theorem k_i : (10000 : Int64).toInt = 10000 := by decide
theorem pct_i {p : Nat} (hp : p ≤ 10000) : ((nI p).toInt64).toInt = (p : Int) := by rw [Int32.toInt_toInt64, nI_toInt (by omega)]
theorem rL (P : pP) (f i : Nat) (x : Int64) (g q : Nat) : pL (sL P f i x) g q = if g = f ∧ q = i then x else pL P g q := rfl
theorem nL (P : pP) (k o : Int32) (c : Int64) {f : Nat} (hf : f ≠ 6) (q : Nat) : pL (p_note P k o c) f q = pL P f q := if_neg hf
/-- the bounds of a claim; t calls are left -/
def bd (t : Nat) (P : pP) (i : Nat) : Prop := (0 ≤ (pL P 0 i).toInt ∧ (pL P 0 i).toInt ≤ 400000000) ∧ (0 ≤ (pL P 1 i).toInt ∧ (pL P 1 i).toInt + 400000000 * (t : Int) ≤ 400000000 * 600) ∧ (0 ≤ (pL P 2 i).toInt ∧ (pL P 2 i).toInt ≤ 400000000) ∧ (0 ≤ (pL P 3 i).toInt ∧ (pL P 3 i).toInt ≤ 400000000) ∧ (0 ≤ (pL P 4 i).toInt ∧ (pL P 4 i).toInt ≤ 400000000)
theorem net_b (h : bd t P i) : 0 ≤ (p_net P i).toInt ∧ (p_net P i).toInt ≤ 400000000 ∧ (0 < (p_net P i).toInt → (p_net P i).toInt = (pL P 0 i).toInt - (pL P 1 i).toInt - (pL P 2 i).toInt) := by
  obtain ⟨⟨a1, a2⟩, ⟨b1, b2⟩, ⟨c1, c2⟩, _⟩ := h
  have e1 : (pL P 0 i - pL P 1 i).toInt = (pL P 0 i).toInt - (pL P 1 i).toInt := sub_i (by omega)
  have e2 : (pL P 0 i - pL P 1 i - pL P 2 i).toInt = (pL P 0 i).toInt - (pL P 1 i).toInt - (pL P 2 i).toInt := by
    rw [sub_i (by rw [e1]; omega), e1]
  unfold p_net
  split
  · rw [z_i]; omega
  · split
    · rw [z_i]; omega
    · rename_i h1
      rw [lt_i, z_i] at h1
      rw [e2] at *
      omega
theorem due_i (h : bd t P i) (hp : p ≤ 10000) : (p_due P i (nI p)).toInt = (p_net P i).toInt * (p : Int) / 10000 := by
  obtain ⟨n1, n2, _⟩ := net_b h
  have m1 : (p_net P i).toInt * (p : Int) ≤ 400000000 * 10000 := Int.mul_le_mul n2 (by omega) (by omega) (by omega)
  have m0 : 0 ≤ (p_net P i).toInt * (p : Int) := Int.mul_nonneg n1 (by omega)
  have e : (p_net P i * (nI p).toInt64).toInt = (p_net P i).toInt * (p : Int) := by
    rw [mul_i (by rw [pct_i hp]; omega), pct_i hp]
  unfold p_due
  rw [div_i (by rw [e]; exact m0) (by rw [k_i]; omega), e, k_i]
theorem due_b (h : bd t P i) (hp : p ≤ 10000) : 0 ≤ (p_due P i (nI p)).toInt ∧ (p_due P i (nI p)).toInt ≤ (p_net P i).toInt := by
  obtain ⟨n1, n2, _⟩ := net_b h
  have m1 : (p_net P i).toInt * (p : Int) ≤ (p_net P i).toInt * 10000 := Int.mul_le_mul_of_nonneg_left (by omega) n1
  have m0 : 0 ≤ (p_net P i).toInt * (p : Int) := Int.mul_nonneg n1 (by omega)
  rw [due_i h hp]
  omega
theorem lack_b (h : bd t P i) (hp : p ≤ 10000) : 0 ≤ (p_lack P i (nI p)).toInt ∧ (0 < (p_lack P i (nI p)).toInt → (p_lack P i (nI p)).toInt = (p_due P i (nI p)).toInt - (pL P 3 i).toInt - (pL P 4 i).toInt) ∧ (p_due P i (nI p)).toInt - (pL P 3 i).toInt - (pL P 4 i).toInt ≤ (p_lack P i (nI p)).toInt := by
  obtain ⟨d1, d2⟩ := due_b h hp
  obtain ⟨_, n2, _⟩ := net_b h
  obtain ⟨_, _, _, ⟨c1, c2⟩, ⟨r1, r2⟩⟩ := h
  have e1 : (p_due P i (nI p) - pL P 3 i).toInt = (p_due P i (nI p)).toInt - (pL P 3 i).toInt := sub_i (by omega)
  have e2 : (p_due P i (nI p) - pL P 3 i - pL P 4 i).toInt = (p_due P i (nI p)).toInt - (pL P 3 i).toInt - (pL P 4 i).toInt := by
    rw [sub_i (by rw [e1]; omega), e1]
  unfold p_lack
  split
  · rename_i h1
    rw [lt_i, z_i, e2] at h1
    rw [z_i]; omega
  · rename_i h1
    rw [lt_i, z_i, e2] at h1
    rw [e2]
    omega
/-! sums -/
def sm (f : Nat → Int) : Nat → Nat → Int
  | 0, _ => 0
  | m + 1, i => f i + sm f m (i + 1)
theorem sm_ext {f g : Nat → Int} : ∀ (m i : Nat), (∀ x, i ≤ x → x < i + m → g x = f x) → sm g m i = sm f m i
  | 0, _, _ => rfl
  | m + 1, i, h => by
    unfold sm
    rw [h i (Nat.le_refl _) (by omega), sm_ext m (i + 1) (fun x h1 h2 => h x (by omega) (by omega))]
theorem sm_upd {f g : Nat → Int} {q : Nat} (hg : ∀ x, x ≠ q → g x = f x) : ∀ (m i : Nat), i ≤ q → q < i + m → sm g m i = sm f m i + (g q - f q)
  | 0, _, h1, h2 => by omega
  | m + 1, i, h1, h2 => by
    unfold sm
    by_cases e : i = q
    · subst e
      rw [sm_ext m (i + 1) (fun x h1 h2 => hg x (by omega))]
      omega
    · rw [hg i e, sm_upd hg m (i + 1) (by omega) (by omega)]
      omega
theorem sm_nn {f : Nat → Int} (hf : ∀ x, 0 ≤ f x) : ∀ (m i : Nat), 0 ≤ sm f m i
  | 0, _ => by unfold sm; omega
  | m + 1, i => by
    have := sm_nn hf m (i + 1)
    have := hf i
    unfold sm
    omega
theorem sm_le {f : Nat → Int} {B : Int} (hf : ∀ x, f x ≤ B) : ∀ (m i : Nat), sm f m i ≤ B * (m : Int)
  | 0, _ => by unfold sm; omega
  | m + 1, i => by
    have h1 := sm_le hf m (i + 1)
    have h2 := hf i
    have e : B * ((m + 1 : Nat) : Int) = B * (m : Int) + B := by rw [Int.natCast_add, Int.mul_add]; omega
    unfold sm
    omega
/-- the cash and all reserves; what the realised assets can have brought -/
def Tt (P : pP) : Int := (pL P 7 0).toInt + sm (fun i => (pL P 4 i).toInt) 60 0
def Gg (P : pP) : Int := sm (fun j => if pI P 1 j = 0 then 0 else 400000000) 20 0
theorem Gg_le (P : pP) : Gg P ≤ 8000000000 := by
  have := sm_le (f := fun j => if pI P 1 j = 0 then (0 : Int) else 400000000) (B := 400000000) (fun x => by split <;> omega) 20 0
  unfold Gg
  omega
def Bnd (t : Nat) (P : pP) : Prop := (∀ i, bd t P i) ∧ (∀ q, 0 ≤ (pL P 5 q).toInt) ∧ 0 ≤ (pL P 7 0).toInt ∧ Tt P ≤ Gg P
theorem Bnd.cash (h : Bnd t P) : 0 ≤ (pL P 7 0).toInt ∧ (pL P 7 0).toInt ≤ 8000000000 := by
  have := Gg_le P
  have h4 := h.2.2.2
  have := sm_nn (f := fun i => (pL P 4 i).toInt) (fun x => (h.1 x).2.2.2.2.1) 60 0
  unfold Tt at h4
  exact ⟨h.2.2.1, by omega⟩
theorem Bnd.cash0 (h : Bnd t P) : 0 ≤ pL P 7 0 := by rw [le_i, z_i]; exact h.2.2.1
theorem Bnd.less (h : Bnd (t + 1) P) : Bnd t P := by
  refine ⟨fun i => ?_, h.2⟩
  obtain ⟨a, b, c⟩ := h.1 i
  exact ⟨a, ⟨b.1, by have := b.2; omega⟩, c⟩
/-! how often a claim is a holder -/
def occ (H : Nat → Nat) (c : Nat) : Nat → Nat → Nat
  | 0, _ => 0
  | m + 1, q => (if H q = c then 1 else 0) + occ H c m (q + 1)
def ocA (H N : Nat → Nat) (Z : Nat → Int32) (c : Nat) : Nat → Nat → Nat
  | 0, _ => 0
  | m + 1, j => (if Z j = 0 then occ H c (N j) (4 * j) else 0) + ocA H N Z c m (j + 1)
theorem hs_occ (H : Nat → Nat) (c : Nat) : ∀ (m q : Nat), p_hs H c m q = decide (0 < occ H c m q)
  | 0, _ => rfl
  | m + 1, q => by
    unfold p_hs occ
    split
    · rw [decide_eq_true (by omega)]
    · rw [hs_occ H c m (q + 1), Nat.zero_add]
theorem op_ocA (H N : Nat → Nat) (Z : Nat → Int32) (c : Nat) : ∀ (m j : Nat), p_op H N Z c m j = decide (0 < ocA H N Z c m j)
  | 0, _ => rfl
  | m + 1, j => by
    unfold p_op ocA
    rw [op_ocA H N Z c m (j + 1), hs_occ]
    by_cases h0 : Z j = 0
    · by_cases h1 : 0 < occ H c (N j) (4 * j)
      · rw [if_pos ⟨h0, decide_eq_true h1⟩, if_pos h0, decide_eq_true (by omega)]
      · rw [if_neg (fun e => h1 (of_decide_eq_true e.2)), if_pos h0, show occ H c (N j) (4 * j) = 0 by omega, Nat.zero_add]
    · rw [if_neg (fun e => h0 e.1), if_neg h0, Nat.zero_add]
theorem occ_le (H : Nat → Nat) (c : Nat) : ∀ (m q : Nat), occ H c m q ≤ m
  | 0, _ => Nat.le_refl _
  | m + 1, q => by
    have := occ_le H c m (q + 1)
    unfold occ
    split <;> omega
theorem ocA_le (H N : Nat → Nat) (Z : Nat → Int32) (c a : Nat) (hN : ∀ j, j < a → N j ≤ 4) : ∀ (m j : Nat), j + m = a → ocA H N Z c m j ≤ 4 * m
  | 0, _, _ => Nat.le_refl _
  | m + 1, j, h => by
    have := ocA_le H N Z c a hN m (j + 1) (by omega)
    have h2 := occ_le H c (N j) (4 * j)
    have := hN j (by omega)
    unfold ocA
    split <;> omega
/-- the class's count of a claim's securities in assets that are not realised -/
def Oc (P : pP) : Prop := ∀ i, pI P 5 i = nI (ocA (fun q => pN P 2 q) (fun j => pN P 1 j) (fun j => pI P 1 j) i (pa P) 0)
theorem open_eq (h : Oc P) (w : wf v P) (i : Nat) : p_openM P i = p_open P i := by
  have b := ocA_le (fun q => pN P 2 q) (fun j => pN P 1 j) (fun j => pI P 1 j) i (pa P) (fun j hj => w.mn hj) (pa P) 0 (by omega)
  have a20 := w.2.1
  unfold p_openM p_open
  rw [op_ocA, h i]
  generalize ocA (fun q => pN P 2 q) (fun j => pN P 1 j) (fun j => pI P 1 j) i (pa P) 0 = n at *
  have e : (decide (nI n ≤ 0)) = !decide (0 < n) := by
    rw [show (0 : Int32) = nI 0 from rfl]
    by_cases h0 : 0 < n
    · rw [decide_eq_true h0, decide_eq_false (mt (nI_leI (by omega) (by omega)).mp (by omega))]; rfl
    · rw [decide_eq_false h0, decide_eq_true ((nI_leI (by omega) (by omega)).mpr (by omega))]; rfl
  rw [e]
  by_cases h1 : pI P 0 i = 1
  · rw [decide_eq_true h1, h1]; simp
  · rw [decide_eq_false h1]
    cases decide (0 < n) <;> cases decide (pI P 0 i = 2) <;> rfl
def Bas (P : pP) : Prop := Oc P ∧ (∀ i, pn P ≤ i → Zc P i) ∧ ∀ j, pa P ≤ j → Za P j
/-- calls left: t -/
def Inv (t : Nat) (P : pP) : Prop := Bas P ∧ (pI P 4 0 = 0 → Bnd t P)
theorem Inv.less (h : Inv (t + 1) P) : Inv t P := ⟨h.1, fun e => (h.2 e).less⟩
/-- nothing has changed that the count of securities and what has no claim yet speak of -/
def Lk (P P' : pP) : Prop := Sh P P' ∧ (∀ i, pI P' 5 i = pI P 5 i) ∧ (∀ j, pI P' 1 j = pI P 1 j) ∧ (∀ q, pL P' 5 q = pL P 5 q) ∧ ∀ i, pn P ≤ i → pI P' 0 i = pI P 0 i ∧ pL P' 1 i = pL P 1 i ∧ pL P' 2 i = pL P 2 i ∧ pL P' 3 i = pL P 3 i ∧ pL P' 4 i = pL P 4 i
theorem Lk.refl (P : pP) : Lk P P := ⟨Sh.refl P, fun _ => rfl, fun _ => rfl, fun _ => rfl, fun _ _ => ⟨rfl, rfl, rfl, rfl, rfl⟩⟩
theorem Lk.trans (a : Lk P P') (b : Lk P' P'') : Lk P P'' := by
  refine ⟨a.1.trans b.1, fun i => (b.2.1 i).trans (a.2.1 i), fun i => (b.2.2.1 i).trans (a.2.2.1 i), fun i => (b.2.2.2.1 i).trans (a.2.2.2.1 i), fun i hi => ?_⟩
  obtain ⟨x1, x2, x3, x4, x5⟩ := a.2.2.2.2 i hi
  obtain ⟨y1, y2, y3, y4, y5⟩ := b.2.2.2.2 i (by rw [a.1.1]; exact hi)
  exact ⟨y1.trans x1, y2.trans x2, y3.trans x3, y4.trans x4, y5.trans x5⟩
theorem Oc.lk (h : Oc P) (k : Lk P P') : Oc P' := by
  intro i
  rw [k.2.1 i, h i, k.1.2.1]
  have e1 : (fun q => pN P' 2 q) = fun q => pN P 2 q := by funext q; show P'.2.1 2 q = P.2.1 2 q; rw [k.1.2.2]
  have e2 : (fun q => pN P' 1 q) = fun q => pN P 1 q := by funext q; show P'.2.1 1 q = P.2.1 1 q; rw [k.1.2.2]
  have e3 : (fun q => pI P' 1 q) = fun q => pI P 1 q := by funext q; exact k.2.2.1 q
  rw [e1, e2, e3]
theorem Bas.lk (h : Bas P) (k : Lk P P') : Bas P' := by
  refine ⟨h.1.lk k, fun i hi => ?_, fun j hj => ?_⟩
  · rw [k.1.1] at hi
    obtain ⟨x1, x2, x3, x4, x5⟩ := k.2.2.2.2 i hi
    obtain ⟨z1, z2, z3, z4, z5, z6⟩ := h.2.1 i hi
    exact ⟨x1.trans z1, x2.trans z2, x3.trans z3, x4.trans z4, x5.trans z5, (k.2.1 i).trans z6⟩
  · rw [k.1.2.1] at hj
    obtain ⟨z1, z2, z3⟩ := h.2.2 j hj
    refine ⟨?_, (k.2.2.1 j).trans z2, fun x hx => (k.2.2.2.1 _).trans (z3 x hx)⟩
    show P'.2.1 1 j = 0
    rw [k.1.2.2]; exact z1
end INV
