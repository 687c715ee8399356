section LAST
variable {t v : Nat} {P P' : pP} {i j q r n : Nat}
/-! the last sharing: class and reference alike -/
theorem pay_0 (P : pP) (i : Nat) : p_pay P i 0 = P := by
  unfold p_pay
  rw [p_note_0 _ _ _ rfl, Int64.sub_zero, sL_id]
  show sL P 3 i (pL P 3 i + 0) = P
  rw [Int64.add_zero, sL_id]
theorem payA_ext {A A' : Nat → Int64} : ∀ (m i : Nat) (P : pP), (∀ q, i ≤ q → q < i + m → A' q = A q) → p_payA A' m i P = p_payA A m i P
  | 0, _, _, _ => rfl
  | m + 1, i, P, h => by
    unfold p_payA
    rw [h i (Nat.le_refl _) (by omega)]
    exact payA_ext m (i + 1) _ (fun q h1 h2 => h q (by omega) (by omega))
theorem payL_A {L : Nat → Int64} : ∀ (m i : Nat) (P : pP), m_payL L r m i P = p_payA (fun q => if pN P 0 q = r then L q else 0) m i P
  | 0, _, _ => rfl
  | m + 1, i, P => by
    unfold m_payL p_payA
    exact payL_A m (i + 1) _
theorem payR_A {A : Nat → Int64} : ∀ (m i : Nat) (P : pP), m_payR A r m i P = p_payA (fun q => if pN P 0 q = r then A q else 0) m i P
  | 0, _, _ => rfl
  | m + 1, i, P => by
    unfold m_payR p_payA
    rw [payR_A m (i + 1)]
    by_cases e : pN P 0 i = r
    · simp only [if_pos e]
      rfl
    · simp only [if_neg e]
      rw [pay_0]
theorem unpaid_pay {c : Int64} (h : q ≠ i) : p_unpaid (p_pay P i c) q = p_unpaid P q := by
  have e : pL (p_pay P i c) 3 q = pL P 3 q := by
    unfold p_pay
    rw [nL _ _ _ _ (by decide), rL, if_neg (fun e => h e.2), rL, if_neg (fun e => by omega)]
  unfold p_unpaid
  rw [e]
  rfl
theorem pays_A : ∀ (m i : Nat) (P : pP), p_pays r m i P = p_payA (fun q => if pN P 0 q = r then p_unpaid P q else 0) m i P
  | 0, _, _ => rfl
  | m + 1, i, P => by
    unfold p_pays p_payA
    rw [pays_A m (i + 1)]
    by_cases e : pN P 0 i = r
    · simp only [if_pos e]
      refine payA_ext m (i + 1) _ (fun q h1 h2 => ?_)
      rw [unpaid_pay (by omega)]
      rfl
    · simp only [if_neg e]
      rw [pay_0]
theorem unpaid_b (h : bd t P i) : 0 ≤ (p_unpaid P i).toInt ∧ (p_unpaid P i).toInt ≤ 400000000 := by
  obtain ⟨n1, n2, _⟩ := net_b h
  obtain ⟨_, _, _, b3, _⟩ := h
  have e : (p_net P i - pL P 3 i).toInt = (p_net P i).toInt - (pL P 3 i).toInt := sub_i (by omega)
  unfold p_unpaid
  split
  · rw [z_i]; omega
  · rename_i q
    rw [lt_i, z_i] at q
    omega
theorem left_eq (h : bd t P i) : m_left P i = p_unpaid P i := by
  obtain ⟨n1, n2, _⟩ := net_b h
  obtain ⟨_, _, _, b3, _⟩ := h
  have e : (p_net P i - pL P 3 i).toInt = (p_net P i).toInt - (pL P 3 i).toInt := sub_i (by omega)
  unfold m_left p_unpaid
  by_cases a : p_net P i ≤ pL P 3 i
  · rw [if_pos a]
    by_cases b : p_net P i - pL P 3 i < 0
    · rw [if_pos b]
    · rw [if_neg b]
      rw [le_i] at a
      rw [lt_i, z_i] at b
      exact Int64.toInt_inj.mp (by rw [z_i]; omega)
  · rw [if_neg a, if_neg]
    rw [le_i] at a
    rw [lt_i, z_i]
    omega
theorem lf_eq : ∀ (m i : Nat) (L : Nat → Int64) (acc : Int64), (∀ q, i ≤ q → q < i + m → pN P 0 q = r → m_left P q = p_unpaid P q) → (m_lf P r m i L acc).2 = p_sumU P r m i acc ∧ (∀ q, i ≤ q → q < i + m → pN P 0 q = r → (m_lf P r m i L acc).1 q = p_unpaid P q) ∧ ∀ q, q < i → (m_lf P r m i L acc).1 q = L q
  | 0, _, _, _, _ => ⟨rfl, fun q h1 h2 => by omega, fun _ _ => rfl⟩
  | m + 1, i, L, acc, h => by
    unfold m_lf p_sumU
    by_cases e : pN P 0 i = r
    · rw [if_pos e, if_pos e]
      obtain ⟨a, b, c⟩ := lf_eq m (i + 1) (uF L i (m_left P i)) (acc + uF L i (m_left P i) i) (fun q h1 h2 => h q (by omega) (by omega))
      have u : uF L i (m_left P i) i = p_unpaid P i := (if_pos rfl).trans (h i (Nat.le_refl _) (by omega) e)
      refine ⟨by rw [a, u], fun q h1 h2 h3 => ?_, fun q hq => ?_⟩
      · by_cases e2 : q = i
        · rw [e2, c i (by omega)]; exact u
        · exact b q (by omega) (by omega) h3
      · rw [c q (by omega)]
        exact if_neg (by omega)
    · rw [if_neg e, if_neg e]
      obtain ⟨a, b, c⟩ := lf_eq m (i + 1) L acc (fun q h1 h2 => h q (by omega) (by omega))
      refine ⟨a, fun q h1 h2 h3 => ?_, fun q hq => c q (by omega)⟩
      exact b q (by rcases Nat.lt_or_ge i q with x | x; exact x; exact absurd (by rw [show i = q by omega]; exact h3) e) (by omega) h3
/-- shares and remainders of a rank -/
def g_sh (P : pP) (r : Nat) (F G : Nat → Int64) : Nat → Nat → (Nat → Int64) → (Nat → Int64) → Int64 → ((Nat → Int64) × (Nat → Int64)) × Int64
  | 0, _, A, B, l => ((A, B), l)
  | m + 1, i, A, B, l => if pN P 0 i = r then g_sh P r F G m (i + 1) (uF A i (F i)) (uF B i (G i)) (l - F i) else g_sh P r F G m (i + 1) A B l
theorem sh_g {all pot : Int64} (ha : ¬ all ≤ 0) : ∀ (m i : Nat) (A B : Nat → Int64) (l : Int64), p_sh P r all pot m i A B l = g_sh P r (fun i => p_unpaid P i * pot / all) (fun i => p_unpaid P i * pot - p_unpaid P i * pot / all * all) m i A B l
  | 0, _, _, _, _ => rfl
  | m + 1, i, A, B, l => by
    unfold p_sh g_sh
    rw [if_neg ha, show uF A i (p_unpaid P i * pot / all) i = p_unpaid P i * pot / all from if_pos rfl, sh_g ha m (i + 1), sh_g ha m (i + 1)]
theorem msh_g {all pot : Int64} {L : Nat → Int64} : ∀ (m i : Nat) (A B : Nat → Int64) (l : Int64), (∀ q, i ≤ q → q < i + m → pN P 0 q = r → L q = p_unpaid P q) → m_sh P r all pot L m i A B l = g_sh P r (fun i => p_unpaid P i * pot / all) (fun i => p_unpaid P i * pot - p_unpaid P i * pot / all * all) m i A B l
  | 0, _, _, _, _, _ => rfl
  | m + 1, i, A, B, l, h => by
    unfold m_sh g_sh
    rw [msh_g m (i + 1) A B l (fun q h1 h2 => h q (by omega) (by omega)), msh_g m (i + 1) _ _ _ (fun q h1 h2 => h q (by omega) (by omega))]
    by_cases e : pN P 0 i = r
    · rw [if_pos e, if_pos e, h i (Nat.le_refl _) (by omega) e, Int64.mul_comm pot, show uF A i (p_unpaid P i * pot / all) i = p_unpaid P i * pot / all from if_pos rfl]
    · rw [if_neg e, if_neg e]
theorem g_f {F G : Nat → Int64} : ∀ (m i : Nat) (A B : Nat → Int64) (l : Int64), (∀ q, q < i → (g_sh P r F G m i A B l).1.1 q = A q ∧ (g_sh P r F G m i A B l).1.2 q = B q) ∧ (∀ q, i ≤ q → q < i + m → pN P 0 q = r → (g_sh P r F G m i A B l).1.1 q = F q ∧ (g_sh P r F G m i A B l).1.2 q = G q) ∧ ∀ q, ¬ pN P 0 q = r → (g_sh P r F G m i A B l).1.1 q = A q ∧ (g_sh P r F G m i A B l).1.2 q = B q
  | 0, _, _, _, _ => ⟨fun _ _ => ⟨rfl, rfl⟩, fun q h1 h2 => by omega, fun _ _ => ⟨rfl, rfl⟩⟩
  | m + 1, i, A, B, l => by
    unfold g_sh
    by_cases e : pN P 0 i = r
    · rw [if_pos e]
      obtain ⟨a, b, c⟩ := g_f (F := F) (G := G) m (i + 1) (uF A i (F i)) (uF B i (G i)) (l - F i)
      refine ⟨fun q hq => ?_, fun q h1 h2 h3 => ?_, fun q hq => ?_⟩
      · obtain ⟨x, y⟩ := a q (by omega)
        exact ⟨x.trans (if_neg (by omega)), y.trans (if_neg (by omega))⟩
      · by_cases e2 : q = i
        · obtain ⟨x, y⟩ := a q (by omega)
          subst e2
          exact ⟨x.trans (if_pos rfl), y.trans (if_pos rfl)⟩
        · exact b q (by omega) (by omega) h3
      · obtain ⟨x, y⟩ := c q hq
        have ne : q ≠ i := fun e2 => hq (by rw [e2]; exact e)
        exact ⟨x.trans (if_neg ne), y.trans (if_neg ne)⟩
    · rw [if_neg e]
      obtain ⟨a, b, c⟩ := g_f (F := F) (G := G) m (i + 1) A B l
      refine ⟨fun q hq => a q (by omega), fun q h1 h2 h3 => ?_, c⟩
      exact b q (by rcases Nat.lt_or_ge i q with x | x; exact x; exact absurd (by rw [show i = q by omega]; exact h3) e) (by omega) h3
theorem g_rest {F G : Nat → Int64} (hF : ∀ q, pN P 0 q = r → 0 ≤ (F q).toInt ∧ (F q).toInt ≤ 400000000) : ∀ (m i : Nat) (A B : Nat → Int64) (l : Int64), l.toInt ≤ 8000000000 → -24000000000 + 400000000 * (m : Int) ≤ l.toInt → (g_sh P r F G m i A B l).2.toInt = l.toInt - sm (fun q => if pN P 0 q = r then (F q).toInt else 0) m i := by
  intro m
  induction m with
  | zero =>
    intro i A B l h1 h2
    exact (Int.sub_zero l.toInt).symm
  | succ m ih =>
    intro i A B l h1 h2
    unfold g_sh sm
    by_cases e : pN P 0 i = r
    · rw [if_pos e, if_pos e]
      have f := hF i e
      have e1 : (l - F i).toInt = l.toInt - (F i).toInt := sub_i (by omega)
      rw [ih (i + 1) _ _ _ (by omega) (by omega), e1]
      omega
    · rw [if_neg e, if_neg e, ih (i + 1) _ _ _ h1 (by omega)]
      omega
/-! taking the greatest remainder, cent by cent -/
def cpos (B : Nat → Int64) : Nat → Nat → Nat
  | 0, _ => 0
  | m + 1, i => (if 0 < B i then 1 else 0) + cpos B m (i + 1)
theorem cpos_0 {B : Nat → Int64} : ∀ (m i : Nat), (∀ q, i ≤ q → q < i + m → ¬ 0 < B q) → cpos B m i = 0
  | 0, _, _ => rfl
  | m + 1, i, h => by
    unfold cpos
    rw [if_neg (h i (Nat.le_refl _) (by omega)), cpos_0 m (i + 1) (fun q h1 h2 => h q (by omega) (by omega))]
theorem cpos_ext {B B' : Nat → Int64} : ∀ (m i : Nat), (∀ q, i ≤ q → q < i + m → B' q = B q) → cpos B' m i = cpos B m i
  | 0, _, _ => rfl
  | m + 1, i, h => by
    unfold cpos
    rw [h i (Nat.le_refl _) (by omega), cpos_ext m (i + 1) (fun q h1 h2 => h q (by omega) (by omega))]
theorem cpos_upd {B : Nat → Int64} {k : Nat} (hk : 0 < B k) : ∀ (m i : Nat), i ≤ k → k < i + m → cpos B m i = cpos (uF B k 0) m i + 1
  | 0, _, h1, h2 => by omega
  | m + 1, i, h1, h2 => by
    unfold cpos
    by_cases e : i = k
    · subst e
      rw [if_pos hk, if_neg (show ¬ (0 : Int64) < uF B i 0 i by rw [show uF B i 0 i = 0 from if_pos rfl]; decide), cpos_ext (B := B) (B' := uF B i 0) m (i + 1) (fun q h1 h2 => if_neg (by omega))]
      omega
    · rw [show uF B k 0 i = B i from if_neg e, cpos_upd hk m (i + 1) (by omega) (by omega)]
      omega
/-- the class's remainders and the reference's overs -/
def Rl (P : pP) (r n : Nat) (Bc Bm : Nat → Int64) : Prop := ∀ q, q < n → (pN P 0 q = r ∧ (Bm q = Bc q ∨ (Bm q = -1 ∧ Bc q = 0)) ∧ 0 ≤ Bc q) ∨ (¬ pN P 0 q = r ∧ Bc q = 0)
def St (Bc Bm : Nat → Int64) (i : Nat) (oc : Option Nat) (g : Int64) (om : Option Nat) : Prop := (oc = none ∧ g = 0 ∧ (∀ q, q < i → ¬ 0 < Bc q) ∧ ∀ k, om = some k → Bm k = 0) ∨ ∃ k, oc = some k ∧ om = some k ∧ g = Bc k ∧ 0 < Bc k ∧ Bm k = Bc k
theorem St_step {Bc Bm : Nat → Int64} (hr : Rl P r n Bc Bm) : ∀ (m i : Nat) (oc : Option Nat) (g : Int64) (om : Option Nat), i + m = n → St Bc Bm i oc g om → St Bc Bm n (p_bst Bc m i oc g).1 (p_bst Bc m i oc g).2 (m_tk P r Bm m i om)
  | 0, i, _, _, _, h, s => by rw [show n = i by omega]; exact s
  | m + 1, i, oc, g, om, h, s => by
    have hi := hr i (by omega)
    unfold p_bst m_tk
    rcases s with ⟨s1, s2, s3, s4⟩ | ⟨k, s1, s2, s3, s4, s5⟩
    · subst s1 s2
      by_cases c : Bc i ≤ 0
      · rw [if_pos c]
        refine St_step hr m (i + 1) _ _ _ (by omega) (Or.inl ⟨rfl, rfl, fun q hq => ?_, fun k hk => ?_⟩)
        · by_cases e : q = i
          · rw [e]; exact Int64.not_lt.mpr c
          · exact s3 q (by omega)
        · split at hk
          · rename_i x
            cases hk
            rcases hi with ⟨a, b | b, d⟩ | ⟨a, b⟩
            · rw [b]; exact Int64.le_antisymm c d
            · rw [b.1] at x; exact absurd (show (-1 : Int64) < 0 by decide) x.2.1
            · exact absurd x.1 a
          · exact s4 k hk
      · rw [if_neg c]
        have c' := Int64.not_le.mp c
        rcases hi with ⟨a, b | b, d⟩ | ⟨a, b⟩
        · refine St_step hr m (i + 1) _ _ _ (by omega) (Or.inr ⟨i, rfl, if_pos ⟨a, by rw [b]; exact Int64.not_lt.mpr d, ?_⟩, rfl, c', b⟩)
          cases om with
          | none => rfl
          | some k =>
            show (!decide (Bm i ≤ Bm k)) = true
            rw [s4 k rfl, b, decide_eq_false c]
            rfl
        · exact absurd (by rw [b.2]; decide) c
        · exact absurd (by rw [b]; decide) c
    · subst s1 s2 s3
      by_cases c : Bc i ≤ Bc k
      · rw [if_pos c, if_neg]
        · exact St_step hr m (i + 1) _ _ _ (by omega) (Or.inr ⟨k, rfl, rfl, rfl, s4, s5⟩)
        · intro x
          have x3 : (!decide (Bm i ≤ Bm k)) = true := x.2.2
          rcases hi with ⟨a, b | b, d⟩ | ⟨a, b⟩
          · rw [b, s5, decide_eq_true c] at x3; cases x3
          · rw [b.1] at x; exact absurd (show (-1 : Int64) < 0 by decide) x.2.1
          · exact a x.1
      · rw [if_neg c]
        have c' := Int64.not_le.mp c
        rcases hi with ⟨a, b | b, d⟩ | ⟨a, b⟩
        · refine St_step hr m (i + 1) _ _ _ (by omega) (Or.inr ⟨i, rfl, if_pos ⟨a, by rw [b]; exact Int64.not_lt.mpr d, ?_⟩, rfl, Int64.lt_trans s4 c', b⟩)
          show (!decide (Bm i ≤ Bm k)) = true
          rw [s5, b, decide_eq_false c]
          rfl
        · exact absurd (by rw [b.2]; exact Int64.le_of_lt s4) c
        · exact absurd (by rw [b]; exact Int64.le_of_lt s4) c
theorem bst_tk {Bc Bm : Nat → Int64} (hr : Rl P r n Bc Bm) (hc : 1 ≤ cpos Bc n 0) : ∃ k, (p_bst Bc n 0 none 0).1 = some k ∧ m_tk P r Bm n 0 none = some k ∧ 0 < Bc k ∧ k < n := by
  have s := St_step hr n 0 none 0 none (by omega) (Or.inl ⟨rfl, rfl, fun q hq => by omega, fun k e => by cases e⟩)
  rcases s with ⟨s1, s2, s3, s4⟩ | ⟨k, s1, s2, s3, s4, s5⟩
  · rw [cpos_0 n 0 (fun q _ h2 => s3 q (by omega))] at hc
    omega
  · exact ⟨k, s1, s2, s4, p_bst_lt Bc n 0 none 0 n k (by omega) (fun k e => by cases e) s1⟩
theorem sm_1 {f g : Nat → Int} {k : Nat} (hk : k < n) (h1 : g k = f k + 1) (h2 : ∀ x, x ≠ k → g x = f x) : sm g n 0 = sm f n 0 + 1 := by
  rw [sm_upd h2 n 0 (by omega) (by omega), h1]
  omega
theorem add_eq : ∀ (m : Nat) (Ac Am Bc Bm : Nat → Int64), Rl P r (pn P) Bc Bm → m ≤ cpos Bc (pn P) 0 → (∀ q, q < pn P → pN P 0 q = r → Am q = Ac q) → (∀ q, q < pn P → 0 ≤ (Ac q).toInt ∧ (Ac q).toInt + (m : Int) ≤ 10000000000) →
    m_ok P r m Bm ∧ (∀ q, q < pn P → pN P 0 q = r → (m_add P r m Am Bm).1 q = (p_add (pn P) m Ac Bc).1 q) ∧ (∀ q, q < pn P → ¬ pN P 0 q = r → (p_add (pn P) m Ac Bc).1 q = Ac q) ∧ (∀ q, q < pn P → 0 ≤ ((p_add (pn P) m Ac Bc).1 q).toInt) ∧ sm (fun q => ((p_add (pn P) m Ac Bc).1 q).toInt) (pn P) 0 = sm (fun q => (Ac q).toInt) (pn P) 0 + (m : Int)
  | 0, Ac, Am, Bc, Bm, _, _, ha, hb => ⟨trivial, ha, fun _ _ _ => rfl, fun q hq => (hb q hq).1, by show sm (fun q => (Ac q).toInt) (pn P) 0 = _; omega⟩
  | m + 1, Ac, Am, Bc, Bm, hr, hc, ha, hb => by
    obtain ⟨k, k1, k2, k3, k4⟩ := bst_tk hr (by omega)
    have rk : pN P 0 k = r := by
      rcases hr k k4 with a | a
      · exact a.1
      · rw [a.2] at k3; exact absurd k3 (by decide)
    have b0 := hb k k4
    have e1 : (Ac k + 1).toInt = (Ac k).toInt + 1 := by
      rw [add_i (by rw [show (1 : Int64).toInt = 1 from by decide]; omega)]
      rfl
    obtain ⟨a, b, c, d, e⟩ := add_eq m (uF Ac k (Ac k + 1)) (uF Am k (Am k + 1)) (uF Bc k 0) (uF Bm k (-1)) (fun q hq => by
        by_cases x : q = k
        · rw [show uF Bc k 0 q = 0 from if_pos x, show uF Bm k (-1) q = -1 from if_pos x]
          exact Or.inl ⟨by rw [x]; exact rk, Or.inr ⟨rfl, rfl⟩, by decide⟩
        · rw [show uF Bc k 0 q = Bc q from if_neg x, show uF Bm k (-1) q = Bm q from if_neg x]
          exact hr q hq) (by
        have := cpos_upd k3 (pn P) 0 (by omega) (by omega)
        omega) (fun q hq hq2 => by
        by_cases x : q = k
        · rw [show uF Ac k (Ac k + 1) q = Ac k + 1 from if_pos x, show uF Am k (Am k + 1) q = Am k + 1 from if_pos x, ha k k4 rk]
        · rw [show uF Ac k (Ac k + 1) q = Ac q from if_neg x, show uF Am k (Am k + 1) q = Am q from if_neg x]
          exact ha q hq hq2) (fun q hq => by
        by_cases x : q = k
        · rw [show uF Ac k (Ac k + 1) q = Ac k + 1 from if_pos x, e1]
          omega
        · rw [show uF Ac k (Ac k + 1) q = Ac q from if_neg x]
          have := hb q hq
          omega)
    have p1 : p_add (pn P) (m + 1) Ac Bc = p_add (pn P) m (uF Ac k (Ac k + 1)) (uF Bc k 0) := by rw [p_add, k1]
    have p2 : m_add P r (m + 1) Am Bm = m_add P r m (uF Am k (Am k + 1)) (uF Bm k (-1)) := by rw [m_add, k2]
    rw [p1, p2]
    refine ⟨⟨k, k2, a⟩, b, fun q hq hq2 => (c q hq hq2).trans (if_neg (fun x => hq2 (by rw [x]; exact rk))), d, ?_⟩
    rw [e, sm_1 (f := fun q => (Ac q).toInt) (g := fun q => (uF Ac k (Ac k + 1) q).toInt) k4 (by
      show (uF Ac k (Ac k + 1) k).toInt = _
      rw [show uF Ac k (Ac k + 1) k = Ac k + 1 from if_pos rfl, e1]) (fun x hx => by
      show (uF Ac k (Ac k + 1) x).toInt = _
      rw [show uF Ac k (Ac k + 1) x = Ac x from if_neg hx])]
    omega
end LAST
