section LAST2
variable {t v : Nat} {P P' : pP} {i j q r n : Nat}
def Uu (P : pP) (r q : Nat) : Int := if pN P 0 q = r then (p_unpaid P q).toInt else 0
/-- as the ranks are paid one after the other: what has not been paid yet is in bounds -/
def Be (r : Nat) (P : pP) : Prop := (∀ q, r ≤ pN P 0 q → bd 0 P q) ∧ 0 ≤ (pL P 7 0).toInt ∧ (pL P 7 0).toInt ≤ 8000000000
theorem Uu_b (h : Be r P) (q : Nat) : 0 ≤ Uu P r q ∧ Uu P r q ≤ 400000000 := by
  unfold Uu
  split
  · rename_i e
    exact unpaid_b (h.1 q (by omega))
  · omega
theorem sumU_i (h : Be r P) : ∀ (m i : Nat) (acc : Int64), m ≤ 60 → 0 ≤ acc.toInt → acc.toInt + 400000000 * (m : Int) ≤ 400000000 * 60 → (p_sumU P r m i acc).toInt = acc.toInt + sm (Uu P r) m i := by
  intro m
  induction m with
  | zero =>
    intro i acc _ _ _
    exact (Int.add_zero acc.toInt).symm
  | succ m ih =>
    intro i acc hm h0 h1
    have b := Uu_b h i
    unfold p_sumU sm
    by_cases e : pN P 0 i = r
    · have k : Uu P r i = (p_unpaid P i).toInt := if_pos e
      have a : (acc + p_unpaid P i).toInt = acc.toInt + Uu P r i := by rw [k, add_i (by omega)]
      rw [if_pos e, ih (i + 1) _ (by omega) (by omega) (by omega), a]
      omega
    · have k : Uu P r i = 0 := if_neg e
      rw [if_neg e, ih (i + 1) _ (by omega) (by omega) (by omega), k]
      omega
theorem sm_lin {x a b : Nat → Int} {c d : Int} (h : ∀ q, x q * c = a q * d + b q) : ∀ (m i : Nat), sm x m i * c = sm a m i * d + sm b m i
  | 0, _ => by unfold sm; omega
  | m + 1, i => by
    unfold sm
    rw [Int.add_mul, Int.add_mul, h i, sm_lin h m (i + 1)]
    omega
theorem cpos_le {b : Nat → Int} {B : Nat → Int64} {S : Int} : ∀ (m i : Nat), (∀ q, i ≤ q → q < i + m → b q ≤ if 0 < B q then S else 0) → sm b m i ≤ S * (cpos B m i : Int)
  | 0, _, _ => by unfold sm cpos; omega
  | m + 1, i, h => by
    have h1 := h i (Nat.le_refl _) (by omega)
    have h2 := cpos_le (b := b) (B := B) (S := S) m (i + 1) (fun q a b => h q (by omega) (by omega))
    unfold sm cpos
    by_cases e : 0 < B i
    · rw [if_pos e] at h1
      rw [if_pos e, Int.natCast_add, Int.mul_add]
      omega
    · rw [if_neg e] at h1
      rw [if_neg e, Nat.zero_add]
      omega
theorem cpos_m {B : Nat → Int64} : ∀ (m i : Nat), cpos B m i ≤ m
  | 0, _ => Nat.le_refl _
  | m + 1, i => by
    have := cpos_m (B := B) m (i + 1)
    unfold cpos
    split <;> omega
theorem pay_7 (P : pP) (i : Nat) (c : Int64) : pL (p_pay P i c) 7 0 = pL P 7 0 - c := rfl
theorem payA_cash {A : Nat → Int64} : ∀ (m i : Nat) (P : pP), (∀ q, i ≤ q → q < i + m → 0 ≤ (A q).toInt) → sm (fun q => (A q).toInt) m i ≤ (pL P 7 0).toInt → (pL P 7 0).toInt ≤ 8000000000 → 0 ≤ (pL P 7 0).toInt → 0 ≤ (pL (p_payA A m i P) 7 0).toInt ∧ (pL (p_payA A m i P) 7 0).toInt ≤ (pL P 7 0).toInt := by
  intro m
  induction m with
  | zero =>
    intro i P _ _ _ h
    exact ⟨h, Int.le_refl _⟩
  | succ m ih =>
    intro i P h1 h2 h3 h4
    have a := h1 i (Nat.le_refl _) (by omega)
    have s : sm (fun q => (A q).toInt) (m + 1) i = (A i).toInt + sm (fun q => (A q).toInt) m (i + 1) := rfl
    have nn : 0 ≤ sm (fun q => (A q).toInt) m (i + 1) := by
      have g := sm_nn (f := fun q => if i + 1 ≤ q ∧ q < i + 1 + m then (A q).toInt else 0) (fun x => by
        show 0 ≤ if i + 1 ≤ x ∧ x < i + 1 + m then (A x).toInt else 0
        split
        · rename_i e; exact h1 x (by omega) (by omega)
        · omega) m (i + 1)
      rw [sm_ext (f := fun q => (A q).toInt) m (i + 1) (fun x a b => if_pos ⟨a, b⟩)] at g
      exact g
    have e : (pL P 7 0 - A i).toInt = (pL P 7 0).toInt - (A i).toInt := sub_i (by omega)
    have g := ih (i + 1) (p_pay P i (A i)) (fun q a b => h1 q (by omega) (by omega)) (by rw [pay_7, e]; omega) (by rw [pay_7, e]; omega) (by rw [pay_7, e]; omega)
    rw [pay_7, e] at g
    unfold p_payA
    omega
theorem payA_f {A : Nat → Int64} : ∀ (m i : Nat) (P : pP), Sh P (p_payA A m i P) ∧ (∀ q, pI (p_payA A m i P) 0 q = pI P 0 q) ∧ (∀ q, pL (p_payA A m i P) 0 q = pL P 0 q ∧ pL (p_payA A m i P) 1 q = pL P 1 q ∧ pL (p_payA A m i P) 2 q = pL P 2 q ∧ pL (p_payA A m i P) 4 q = pL P 4 q) ∧ ∀ q, (q < i ∨ i + m ≤ q ∨ A q = 0) → pL (p_payA A m i P) 3 q = pL P 3 q
  | 0, _, P => ⟨Sh.refl P, fun _ => rfl, fun _ => ⟨rfl, rfl, rfl, rfl⟩, fun _ _ => rfl⟩
  | m + 1, i, P => by
    unfold p_payA
    obtain ⟨a, b, c, d⟩ := payA_f (A := A) m (i + 1) (p_pay P i (A i))
    refine ⟨Sh.trans ⟨rfl, rfl, rfl⟩ a, fun q => (b q).trans rfl, fun q => (c q), fun q hq => ?_⟩
    by_cases e : q = i
    · subst e
      rw [d q (Or.inl (by omega))]
      rcases hq with x | x | x
      · omega
      · omega
      · rw [x, pay_0]
    · rw [d q (by rcases hq with x | x | x; exact Or.inl (by omega); exact Or.inr (Or.inl (by omega)); exact Or.inr (Or.inr x))]
      unfold p_pay
      rw [nL _ _ _ _ (by decide), rL, if_neg (fun x => e x.2), rL, if_neg (fun x => by omega)]
theorem lk_payA {A : Nat → Int64} : ∀ (m i : Nat) (P : pP), i + m ≤ pn P → Lk P (p_payA A m i P)
  | 0, _, P, _ => Lk.refl P
  | m + 1, i, P, h => by
    unfold p_payA
    exact (lk_pay (by omega) _).trans (lk_payA m (i + 1) _ (by show _ ≤ pn P; omega))
theorem lk_rank (P : pP) (r : Nat) : Lk P (p_rank P r) := by
  unfold p_rank
  split
  · rw [pays_A]; exact lk_payA _ 0 P (by omega)
  · exact lk_payA _ 0 P (by omega)
theorem lk_ranks : ∀ (m r : Nat) (P : pP), Lk P (p_ranks m r P)
  | 0, _, P => Lk.refl P
  | m + 1, r, P => by
    unfold p_ranks
    exact (lk_rank P r).trans (lk_ranks m (r + 1) _)
theorem Be.payA (h : Be r P) {A : Nat → Int64} (h1 : ∀ q, q < pn P → 0 ≤ (A q).toInt) (h2 : sm (fun q => (A q).toInt) (pn P) 0 ≤ (pL P 7 0).toInt) (h3 : ∀ q, q < pn P → ¬ pN P 0 q = r → A q = 0) : Be (r + 1) (p_payA A (pn P) 0 P) := by
  obtain ⟨c1, c2⟩ := payA_cash (pn P) 0 P (fun q _ b => h1 q (by omega)) h2 h.2.2 h.2.1
  obtain ⟨a, b, c, d⟩ := payA_f (A := A) (pn P) 0 P
  refine ⟨fun q hq => ?_, c1, by have := h.2.2; omega⟩
  have hq : r + 1 ≤ pN P 0 q := by
    have e : pN (p_payA A (pn P) 0 P) 0 q = pN P 0 q := by show (p_payA A (pn P) 0 P).2.1 0 q = P.2.1 0 q; rw [a.2.2]
    rw [e] at hq
    exact hq
  have g := h.1 q (by omega)
  obtain ⟨x0, x1, x2, x4⟩ := c q
  unfold bd
  rw [x0, x1, x2, x4, d q (by
    by_cases x : q < pn P
    · exact Or.inr (Or.inr (h3 q x (by omega)))
    · exact Or.inr (Or.inl (by omega)))]
  exact g
/-- the facts of a sharing that falls short -/
theorem share_eq (h : Be r P) (hn : pn P ≤ 60) (hc : ¬ p_sumU P r (pn P) 0 0 ≤ pL P 7 0) {L A B : Nat → Int64} (hL : ∀ q, q < pn P → pN P 0 q = r → L q = p_unpaid P q) :
    ∃ k : Nat, (m_sh P r (p_sumU P r (pn P) 0 0) (pL P 7 0) L (pn P) 0 A B (pL P 7 0)).2.toInt = (k : Int) ∧ m_ok P r k (m_sh P r (p_sumU P r (pn P) 0 0) (pL P 7 0) L (pn P) 0 A B (pL P 7 0)).1.2 ∧ m_payR (m_add P r k (m_sh P r (p_sumU P r (pn P) 0 0) (pL P 7 0) L (pn P) 0 A B (pL P 7 0)).1.1 (m_sh P r (p_sumU P r (pn P) 0 0) (pL P 7 0) L (pn P) 0 A B (pL P 7 0)).1.2).1 r (pn P) 0 P = p_share P r (p_sumU P r (pn P) 0 0) ∧ Be (r + 1) (p_share P r (p_sumU P r (pn P) 0 0)) := by
  obtain ⟨hb, c0, c8⟩ := h
  have h : Be r P := ⟨hb, c0, c8⟩
  have sU := sumU_i h (pn P) 0 0 hn (by decide) (by rw [z_i]; omega)
  rw [z_i, Int.zero_add] at sU
  rw [le_i] at hc
  generalize hall : p_sumU P r (pn P) 0 0 = all at *
  generalize hpot : pL P 7 0 = pot at *
  have apos : 0 < all.toInt := by omega
  have ha : ¬ all ≤ 0 := by rw [le_i, z_i]; omega
  have sS : sm (Uu P r) (pn P) 0 ≤ 400000000 * 60 := by
    have := sm_le (f := Uu P r) (fun x => (Uu_b h x).2) (pn P) 0
    omega
  -- one claim
  have one : ∀ q, pN P 0 q = r → (p_unpaid P q * pot / all).toInt = Uu P r q * pot.toInt / all.toInt ∧ (p_unpaid P q * pot - p_unpaid P q * pot / all * all).toInt = Uu P r q * pot.toInt % all.toInt := fun q e => by
    have u : Uu P r q = (p_unpaid P q).toInt := if_pos e
    have b := Uu_b h q
    rw [u] at *
    have m0 : 0 ≤ (p_unpaid P q).toInt * pot.toInt := Int.mul_nonneg b.1 c0
    have m1 : (p_unpaid P q).toInt * pot.toInt ≤ 400000000 * 8000000000 := Int.mul_le_mul b.2 c8 c0 (by omega)
    have e1 : (p_unpaid P q * pot).toInt = (p_unpaid P q).toInt * pot.toInt := mul_i (by omega)
    have e2 : (p_unpaid P q * pot / all).toInt = (p_unpaid P q).toInt * pot.toInt / all.toInt := by
      rw [div_i (by rw [e1]; exact m0) apos, e1]
    have d1 := Int.emod_add_mul_ediv ((p_unpaid P q).toInt * pot.toInt) all.toInt
    have d2 := Int.emod_nonneg ((p_unpaid P q).toInt * pot.toInt) (show all.toInt ≠ 0 by omega)
    have d3 : 0 ≤ (p_unpaid P q).toInt * pot.toInt / all.toInt := Int.ediv_nonneg m0 (by omega)
    rw [Int.mul_comm all.toInt] at d1
    have d4 : 0 ≤ (p_unpaid P q).toInt * pot.toInt / all.toInt * all.toInt := Int.mul_nonneg d3 (by omega)
    have e3 : (p_unpaid P q * pot / all * all).toInt = (p_unpaid P q).toInt * pot.toInt / all.toInt * all.toInt := by
      rw [mul_i (by rw [e2]; omega), e2]
    refine ⟨e2, ?_⟩
    rw [sub_i (by rw [e1, e3]; omega), e1, e3]
    omega
  have fb : ∀ q, pN P 0 q = r → 0 ≤ (p_unpaid P q * pot / all).toInt ∧ (p_unpaid P q * pot / all).toInt ≤ 400000000 := fun q e => by
    have b := Uu_b h q
    rw [(one q e).1]
    refine ⟨Int.ediv_nonneg (Int.mul_nonneg b.1 c0) (by omega), ?_⟩
    have : Uu P r q * pot.toInt ≤ Uu P r q * all.toInt := Int.mul_le_mul_of_nonneg_left (by omega) b.1
    have := Int.ediv_le_ediv apos this
    rw [Int.mul_ediv_cancel _ (by omega)] at this
    omega
  generalize hF : (fun i => p_unpaid P i * pot / all) = F at *
  generalize hG : (fun i => p_unpaid P i * pot - p_unpaid P i * pot / all * all) = G at *
  have one : ∀ q, pN P 0 q = r → (F q).toInt = Uu P r q * pot.toInt / all.toInt ∧ (G q).toInt = Uu P r q * pot.toInt % all.toInt := fun q e => by
    rw [← hF, ← hG]; exact one q e
  have fb : ∀ q, pN P 0 q = r → 0 ≤ (F q).toInt ∧ (F q).toInt ≤ 400000000 := fun q e => by
    rw [← hF]; exact fb q e
  have gb : ∀ q, pN P 0 q = r → 0 ≤ (G q).toInt ∧ (G q).toInt < all.toInt := fun q e => by
    rw [(one q e).2]
    exact ⟨Int.emod_nonneg _ (by omega), Int.emod_lt_of_pos _ apos⟩
  have mg := msh_g (P := P) (r := r) (all := all) (pot := pot) (L := L) (pn P) 0 A B pot (fun q _ b e => hL q (by omega) e)
  have cg := sh_g (P := P) (r := r) (all := all) (pot := pot) ha (pn P) 0 (fun _ => 0) (fun _ => 0) pot
  rw [hF, hG] at mg cg
  have s0 : p_sh0 P r all = g_sh P r F G (pn P) 0 (fun _ => 0) (fun _ => 0) pot := by
    unfold p_sh0
    rw [hpot, cg]
  have rc := g_rest (P := P) (r := r) (F := F) (G := G) fb (pn P) 0 (fun _ => 0) (fun _ => 0) pot c8 (by omega)
  have rm := g_rest (P := P) (r := r) (F := F) (G := G) fb (pn P) 0 A B pot c8 (by omega)
  obtain ⟨f1, f2, f3⟩ := g_f (P := P) (r := r) (F := F) (G := G) (pn P) 0 (fun _ => 0) (fun _ => 0) pot
  obtain ⟨g1, g2, g3⟩ := g_f (P := P) (r := r) (F := F) (G := G) (pn P) 0 A B pot
  generalize hC : g_sh P r F G (pn P) 0 (fun _ => 0) (fun _ => 0) pot = C at *
  generalize hD : g_sh P r F G (pn P) 0 A B pot = D at *
  -- the sums
  have lin := sm_lin (x := Uu P r) (a := fun q => if pN P 0 q = r then (F q).toInt else 0) (b := fun q => if pN P 0 q = r then (G q).toInt else 0) (c := pot.toInt) (d := all.toInt) (fun q => by
    by_cases e : pN P 0 q = r
    · simp only [if_pos e]
      rw [(one q e).1, (one q e).2, Int.mul_comm (Uu P r q * pot.toInt / all.toInt)]
      have := Int.mul_ediv_add_emod (Uu P r q * pot.toInt) all.toInt
      omega
    · simp only [if_neg e]
      rw [show Uu P r q = 0 from if_neg e]
      omega) (pn P) 0
  generalize hsa : sm (fun q => if pN P 0 q = r then (F q).toInt else 0) (pn P) 0 = sa at *
  have sbn := sm_nn (f := fun q => if pN P 0 q = r then (G q).toInt else 0) (fun x => by
    show 0 ≤ if pN P 0 x = r then (G x).toInt else 0
    split
    · rename_i e; exact (gb x e).1
    · omega) (pn P) 0
  have sbc := cpos_le (b := fun q => if pN P 0 q = r then (G q).toInt else 0) (B := C.1.2) (S := all.toInt) (pn P) 0 (fun q _ hq => by
    show (if pN P 0 q = r then (G q).toInt else 0) ≤ _
    by_cases e : pN P 0 q = r
    · rw [if_pos e, (f2 q (by omega) hq e).2]
      have := gb q e
      split
      · omega
      · rename_i x
        rw [lt_i, z_i] at x
        omega
    · rw [if_neg e]
      split <;> omega)
  generalize hsb : sm (fun q => if pN P 0 q = r then (G q).toInt else 0) (pn P) 0 = sb at *
  rw [← sU] at lin
  have rel : (pot.toInt - sa) * all.toInt = sb := by
    rw [Int.sub_mul, Int.mul_comm pot.toInt]
    omega
  have r0 : 0 ≤ pot.toInt - sa := by
    rcases Int.lt_or_le (pot.toInt - sa) 0 with x | x
    · have := Int.mul_neg_of_neg_of_pos x apos
      omega
    · exact x
  have r1 : pot.toInt - sa ≤ (cpos C.1.2 (pn P) 0 : Int) := by
    rw [← rel, Int.mul_comm all.toInt] at sbc
    exact Int.le_of_mul_le_mul_right sbc apos
  have cm := cpos_m (B := C.1.2) (pn P) 0
  obtain ⟨k, hk⟩ := Int.eq_ofNat_of_zero_le r0
  have ad := add_eq (P := P) (r := r) k C.1.1 D.1.1 C.1.2 D.1.2 (fun q hq => by
      by_cases e : pN P 0 q = r
      · refine Or.inl ⟨e, Or.inl ?_, ?_⟩
        · rw [(f2 q (by omega) (by omega) e).2, (g2 q (by omega) (by omega) e).2]
        · rw [(f2 q (by omega) (by omega) e).2, le_i, z_i]
          exact (gb q e).1
      · exact Or.inr ⟨e, (f3 q e).2⟩) (by omega) (fun q hq e => by rw [(f2 q (by omega) (by omega) e).1, (g2 q (by omega) (by omega) e).1]) (fun q hq => by
      by_cases e : pN P 0 q = r
      · rw [(f2 q (by omega) (by omega) e).1]
        have := fb q e
        omega
      · rw [(f3 q e).1, z_i]
        omega)
  obtain ⟨a1, a2, a3, a4, a5⟩ := ad
  have shA : p_shA P r all = p_add (pn P) k C.1.1 C.1.2 := by
    unfold p_shA
    rw [s0, rc, hk]
    rfl
  have sC : sm (fun q => (C.1.1 q).toInt) (pn P) 0 = sa := by
    rw [← hsa]
    refine sm_ext (pn P) 0 (fun q _ hq => ?_)
    by_cases e : pN P 0 q = r
    · rw [if_pos e, (f2 q (by omega) hq e).1]
    · rw [if_neg e, (f3 q e).1, z_i]
  refine ⟨k, ?_, ?_, ?_, ?_⟩
  · rw [mg, rm, hk]
  · rw [mg]; exact a1
  · rw [mg, payR_A]
    unfold p_share
    rw [shA]
    refine payA_ext (pn P) 0 P (fun q _ hq => ?_)
    by_cases e : pN P 0 q = r
    · rw [if_pos e]; exact a2 q (by omega) e
    · rw [if_neg e, a3 q (by omega) e, (f3 q e).1]
  · unfold p_share
    rw [shA]
    refine h.payA (fun q hq => a4 q hq) ?_ (fun q hq e => (a3 q hq e).trans (f3 q e).1)
    rw [a5, sC, hpot]
    omega
theorem pays_eq (h : Be r P) (hn : pn P ≤ 60) (hc : p_sumU P r (pn P) 0 0 ≤ pL P 7 0) {L : Nat → Int64} (hL : ∀ q, q < pn P → pN P 0 q = r → L q = p_unpaid P q) : m_payL L r (pn P) 0 P = p_pays r (pn P) 0 P ∧ Be (r + 1) (p_pays r (pn P) 0 P) := by
  have sU := sumU_i h (pn P) 0 0 hn (by decide) (by rw [z_i]; omega)
  rw [z_i, Int.zero_add] at sU
  rw [le_i, sU] at hc
  constructor
  · rw [payL_A, pays_A]
    refine payA_ext (pn P) 0 P (fun q _ hq => ?_)
    by_cases e : pN P 0 q = r
    · rw [if_pos e, if_pos e, hL q (by omega) e]
    · rw [if_neg e, if_neg e]
  · rw [pays_A]
    refine h.payA (fun q hq => ?_) ?_ (fun q hq e => if_neg e)
    · show 0 ≤ (if pN P 0 q = r then p_unpaid P q else 0).toInt
      split
      · rename_i e; exact (unpaid_b (h.1 q (by omega))).1
      · decide
    · rw [sm_ext (f := Uu P r) (pn P) 0 (fun q _ _ => ?_)]
      · exact hc
      · show (if pN P 0 q = r then p_unpaid P q else 0).toInt = Uu P r q
        unfold Uu
        by_cases e : pN P 0 q = r
        · rw [if_pos e, if_pos e]
        · rw [if_neg e, if_neg e, z_i]
theorem Be.of (h : Bnd t P) (r : Nat) : Be r P := by
  refine ⟨fun q _ => ?_, h.cash⟩
  obtain ⟨a, b, c⟩ := h.1 q
  exact ⟨a, ⟨b.1, by have := b.2; omega⟩, c⟩
end LAST2
