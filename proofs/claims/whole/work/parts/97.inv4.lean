section INV4
variable {t v : Nat} {P P' P'' : pP} {i j q p r : Nat}
/-! greatest: steps that halve, and halves of what lies between, find the same -/
def lkI (P : pP) (r p i : Nat) : Int := if pN P 0 i < r then (p_lack P i (nI (pN P 3 (pN P 0 i)))).toInt else if pN P 0 i = r then (p_lack P i (nI p)).toInt else 0
theorem lkI_b (h : Bnd t P) (hp : p ≤ 10000) (hc : ∀ r, pN P 3 r ≤ 10000) (i : Nat) : 0 ≤ lkI P r p i ∧ lkI P r p i ≤ 400000000 := by
  obtain ⟨_, n2, _⟩ := net_b (h.1 i)
  obtain ⟨b0, b1, b2, b3, b4⟩ := h.1 i
  have f : ∀ p, p ≤ 10000 → 0 ≤ (p_lack P i (nI p)).toInt ∧ (p_lack P i (nI p)).toInt ≤ 400000000 := fun p hp => by
    obtain ⟨a, b, c⟩ := lack_b (h.1 i) hp
    obtain ⟨d1, d2⟩ := due_b (h.1 i) hp
    refine ⟨a, ?_⟩
    by_cases x : 0 < (p_lack P i (nI p)).toInt
    · have := b x; omega
    · omega
  unfold lkI
  split
  · exact f _ (hc _)
  · split
    · exact f _ hp
    · omega
theorem need_i (h : Bnd t P) (hp : p ≤ 10000) (hc : ∀ r, pN P 3 r ≤ 10000) : ∀ (m i : Nat) (acc : Int64), m ≤ 60 → 0 ≤ acc.toInt → acc.toInt + 400000000 * (m : Int) ≤ 400000000 * 60 → (p_need P r (nI p) m i acc).toInt = acc.toInt + sm (lkI P r p) m i
  | 0, _, acc, _, _, _ => by unfold p_need sm; omega
  | m + 1, i, acc, hm, h0, h1 => by
    have b := lkI_b (r := r) h hp hc i
    unfold p_need sm
    split
    · rename_i e
      have k : lkI P r p i = (p_lack P i (nI (pN P 3 (pN P 0 i)))).toInt := if_pos e
      have a : (acc + p_lack P i (nI (pN P 3 (pN P 0 i)))).toInt = acc.toInt + lkI P r p i := by rw [k, add_i (by omega)]
      rw [need_i h hp hc m (i + 1) _ (by omega) (by omega) (by omega), a]
      omega
    · rename_i e
      split
      · rename_i e2
        have k : lkI P r p i = (p_lack P i (nI p)).toInt := (if_neg e).trans (if_pos e2)
        have a : (acc + p_lack P i (nI p)).toInt = acc.toInt + lkI P r p i := by rw [k, add_i (by omega)]
        rw [need_i h hp hc m (i + 1) _ (by omega) (by omega) (by omega), a]
        omega
      · rename_i e2
        have k : lkI P r p i = 0 := (if_neg e).trans (if_neg e2)
        rw [need_i h hp hc m (i + 1) acc (by omega) (by omega) (by omega), k]
        omega
theorem sm_mono {f g : Nat → Int} (h : ∀ x, f x ≤ g x) : ∀ (m i : Nat), sm f m i ≤ sm g m i
  | 0, _ => Int.le_refl _
  | m + 1, i => by
    have := h i
    have := sm_mono h m (i + 1)
    unfold sm
    omega
theorem lkI_mono (h : Bnd t P) {p p' : Nat} (hp : p ≤ p') (hp' : p' ≤ 10000) (i : Nat) : lkI P r p i ≤ lkI P r p' i := by
  unfold lkI
  split
  · exact Int.le_refl _
  · split
    · obtain ⟨a, b, c⟩ := lack_b (h.1 i) (show p ≤ 10000 by omega)
      obtain ⟨a', b', c'⟩ := lack_b (h.1 i) hp'
      obtain ⟨n1, _, _⟩ := net_b (h.1 i)
      have d : (p_due P i (nI p)).toInt ≤ (p_due P i (nI p')).toInt := by
        rw [due_i (h.1 i) (by omega), due_i (h.1 i) hp']
        have := Int.mul_le_mul_of_nonneg_left (show (p : Int) ≤ (p' : Int) by omega) n1
        omega
      by_cases x : 0 < (p_lack P i (nI p)).toInt
      · have := b x; omega
      · omega
    · exact Int.le_refl _
theorem need_mono (h : Bnd t P) (hn : pn P ≤ 60) (hc : ∀ r, pN P 3 r ≤ 10000) {p p' : Nat} (hp : p ≤ p') (hp' : p' ≤ 10000) (k : p_need P r (nI p') (pn P) 0 0 ≤ pL P 7 0) : p_need P r (nI p) (pn P) 0 0 ≤ pL P 7 0 := by
  rw [le_i] at *
  rw [need_i h hp' hc _ _ _ hn (by decide) (by rw [z_i]; omega)] at k
  rw [need_i h (by omega) hc _ _ _ hn (by decide) (by rw [z_i]; omega)]
  have := sm_mono (fun x => lkI_mono (r := r) h hp hp' x) (pn P) 0
  omega
theorem great_b (ok : Nat → Prop) (hm : ∀ x y, x ≤ y → y ≤ 10000 → ok y → ok x) (hok : ∀ x, ok x ↔ p_need P r (nI x) (pn P) 0 0 ≤ pL P 7 0) : ∀ (m b : Nat), b ≤ p_great P r m b ∧ (p_great P r m b = b ∨ (p_great P r m b ≤ 10000 ∧ ok (p_great P r m b))) ∧ ∀ x, p_great P r m b < x → x < b + 2 ^ m → ¬ (x ≤ 10000 ∧ ok x)
  | 0, b => ⟨Nat.le_refl _, Or.inl rfl, fun x h1 h2 => by unfold p_great at h1; omega⟩
  | m + 1, b => by
    unfold p_great
    have pw : 2 ^ (m + 1) = 2 ^ m + 2 ^ m := by rw [Nat.pow_succ]; omega
    by_cases g : b + 2 ^ m ≤ 10000 ∧ p_need P r (nI (b + 2 ^ m)) (pn P) 0 0 ≤ pL P 7 0
    · rw [if_pos g]
      obtain ⟨a, c, d⟩ := great_b ok hm hok m (b + 2 ^ m)
      refine ⟨Nat.le_trans (Nat.le_add_right _ _) a, Or.inr ?_, fun x h1 h2 => d x h1 (by omega)⟩
      rcases c with e | e
      · rw [e]; exact ⟨g.1, (hok _).mpr g.2⟩
      · exact e
    · rw [if_neg g]
      obtain ⟨a, c, d⟩ := great_b ok hm hok m b
      refine ⟨a, c, fun x h1 h2 => ?_⟩
      by_cases x1 : x < b + 2 ^ m
      · exact d x h1 x1
      · intro e
        exact g ⟨by omega, (hok _).mp (hm _ x (by omega) e.1 e.2)⟩
theorem bis_b (ok : Nat → Prop) (hm : ∀ x y, x ≤ y → y ≤ 10000 → ok y → ok x) (hok : ∀ x, ok x ↔ p_need P r (nI x) (pn P) 0 0 ≤ pL P 7 0) : ∀ (m lo hi : Nat), hi - lo ≤ m → lo ≤ hi → hi ≤ 10000 → lo ≤ m_bis P r m lo hi ∧ m_bis P r m lo hi ≤ hi ∧ (m_bis P r m lo hi = lo ∨ ok (m_bis P r m lo hi)) ∧ ∀ x, m_bis P r m lo hi < x → x ≤ hi → ¬ ok x
  | 0, lo, hi, h1, h2, h3 => ⟨Nat.le_refl _, h2, Or.inl rfl, fun x a b => by unfold m_bis at a; omega⟩
  | m + 1, lo, hi, h1, h2, h3 => by
    unfold m_bis
    by_cases l : lo < hi
    · rw [if_pos l]
      generalize hmid : (lo + hi + 1) / 2 = mid
      by_cases g : p_need P r (nI mid) (pn P) 0 0 ≤ pL P 7 0
      · rw [if_pos g]
        obtain ⟨a, b, c, d⟩ := bis_b ok hm hok m mid hi (by omega) (by omega) h3
        refine ⟨by omega, b, Or.inr ?_, d⟩
        rcases c with e | e
        · rw [e]; exact (hok _).mpr g
        · exact e
      · rw [if_neg g]
        obtain ⟨a, b, c, d⟩ := bis_b ok hm hok m lo (mid - 1) (by omega) (by omega) (by omega)
        refine ⟨a, by omega, c, fun x h1 h2 => ?_⟩
        by_cases x1 : x ≤ mid - 1
        · exact d x h1 x1
        · intro e
          exact g ((hok _).mp (hm _ x (by omega) (by omega) e))
    · rw [if_neg l]
      exact ⟨Nat.le_refl _, h2, Or.inl rfl, fun x a b => by omega⟩
theorem great_eq (h : Bnd t P) (hn : pn P ≤ 60) (hc : ∀ r, pN P 3 r ≤ 10000) : p_great P r 14 (pN P 3 r) = m_bis P r 10000 (pN P 3 r) 10000 := by
  have b0 := hc r
  have hm : ∀ x y, x ≤ y → y ≤ 10000 → p_need P r (nI y) (pn P) 0 0 ≤ pL P 7 0 → p_need P r (nI x) (pn P) 0 0 ≤ pL P 7 0 := fun x y h1 h2 k => need_mono h hn hc h1 h2 k
  obtain ⟨a, b, c⟩ := great_b (P := P) (r := r) (fun x => p_need P r (nI x) (pn P) 0 0 ≤ pL P 7 0) hm (fun x => Iff.rfl) 14 (pN P 3 r)
  obtain ⟨a', a2, b', c'⟩ := bis_b (P := P) (r := r) (fun x => p_need P r (nI x) (pn P) 0 0 ≤ pL P 7 0) hm (fun x => Iff.rfl) 10000 (pN P 3 r) 10000 (by omega) b0 (Nat.le_refl _)
  generalize p_great P r 14 (pN P 3 r) = x at *
  generalize m_bis P r 10000 (pN P 3 r) 10000 = y at *
  rcases Nat.lt_trichotomy x y with e | e | e
  · rcases b' with q | q
    · omega
    · exact absurd ⟨a2, q⟩ (c y e (by omega))
  · exact e
  · rcases b with q | q
    · omega
    · exact absurd q.2 (c' x e q.1)
theorem greatest_eq (h : Inv t P) (w : wf v P) (r : Nat) : m_greatest P r = p_greatest P r := by
  unfold m_greatest p_greatest
  by_cases e : pI P 4 0 = 0
  · rw [if_neg (not_not_intro e), if_neg (not_not_intro e), great_eq (h.2 e) w.1 w.pc]
  · rw [if_pos e, if_pos e]
/-! the other calls keep the invariant -/
theorem cents_i {n l : Int64} (h : ¬ g_cents n l = false) : l.toInt ≤ n.toInt ∧ n.toInt ≤ 400000000 := by
  have h : g_cents n l = true := by
    cases e : g_cents n l
    · exact absurd e h
    · rfl
  have a := g_cents_t h
  rw [lt_i, le_i] at a
  have : (400000000 : Int64).toInt = 400000000 := by decide
  omega
theorem Inv.keep (h : Inv (t + 1) P) (k : Lk P P') (b : pI P 4 0 = 0 → pI P' 4 0 = 0 → Bnd t P') (e : pI P 4 0 = 0) : Inv t P' := ⟨h.1.lk k, fun e' => b e e'⟩
theorem inv_owes (h : Inv (t + 1) P) (hi : i < pn P) (hn : pn P ≤ 60) (n : Int64) : Inv t (o_owes P i n).2.2 := by
  unfold o_owes
  split
  · exact h.less
  · rename_i g
    split
    · exact h.less
    · rename_i e
      split
      · exact h.less
      · split
        · have e := Classical.not_not.mp e
          have c := cents_i g
          rw [z_i] at c
          have b := h.2 e
          refine ⟨h.1.lk (lk_L (by decide) hi _), fun _ => ?_⟩
          obtain ⟨b0, b1, b2, b3, b4⟩ := b.1 i
          have e1 : (pL P 1 i + n).toInt = (pL P 1 i).toInt + n.toInt := add_i (by omega)
          have r1 : pL (sL P 1 i (pL P 1 i + n)) 1 i = pL P 1 i + n := s2_self _ _ _ _
          refine b.less.ef (i := i) ⟨fun f hf q hq => ?_, fun q => rfl, fun j => rfl⟩ (by omega) ⟨b0, ?_, b2, b3, b4⟩ b.2.2.1 (Int.le_refl _)
          · rw [rL, if_neg (fun e => hq e.2)]
          · rw [r1, e1]; omega
        · exact h.less
theorem inv_contest (h : Inv (t + 1) P) (hi : i < pn P) : Inv t (o_contest P i).2.2 := by
  unfold o_contest
  split
  · exact h.less
  · split
    · exact h.less
    · split
      · exact ⟨h.1.lk (lk_st hi _), fun e => (h.2 e).less⟩
      · exact h.less
theorem inv_cost (h : Inv (t + 1) P) (n : Int64) : Inv t (o_cost P n).2.2 := by
  unfold o_cost
  split
  · exact h.less
  · rename_i g
    split
    · exact h.less
    · rename_i e
      split
      · exact h.less
      · rename_i q
        have e := Classical.not_not.mp e
        have q := Classical.not_not.mp q
        have c := cents_i g
        rw [z_i] at c
        rw [le_i] at q
        have b := (h.2 e).less
        refine ⟨h.1.lk (((lk_7 P 0 _).trans (lk_7 _ 2 _)).trans (lk_note _ _ _ _)), fun _ => ?_⟩
        have c4 := b.cash
        have e0 : (pL P 7 0 - n).toInt = (pL P 7 0).toInt - n.toInt := sub_i (by omega)
        refine b.ef (i := 0) ⟨fun f hf q hq => ?_, fun q => rfl, fun j => rfl⟩ (by omega) (b.1 0) ?_ ?_
        · rw [nL _ _ _ _ (by omega), rL, if_neg (fun e => by omega), rL, if_neg (fun e => by omega)]
        · show 0 ≤ (pL P 7 0 - n).toInt
          omega
        · show (pL P 7 0 - n).toInt + (pL P 4 0).toInt ≤ _
          omega
theorem inv_claim (h : Inv (t + 1) P) (hr : r < 8) (c : Int64) : Inv t (o_claim P r c).2.2 := by
  unfold o_claim
  split
  · exact h.less
  · rename_i g
    split
    · exact h.less
    · split
      · exact h.less
      · rename_i e
        have e := Classical.not_not.mp e
        have c1 := cents_i g
        rw [show (1 : Int64).toInt = 1 from by decide] at c1
        have b := (h.2 e).less
        refine ⟨⟨fun i => h.1.1 i, fun i hi => ?_, h.1.2.2⟩, fun _ => ⟨fun i => ?_, b.2⟩⟩
        · have hi : pn P + 1 ≤ i := hi
          exact h.1.2.1 i (by omega)
        · obtain ⟨b0, b1⟩ := b.1 i
          refine ⟨?_, b1⟩
          show 0 ≤ (pL (sL (sN P 0 (pn P) r) 0 (pn P) c) 0 i).toInt ∧ (pL (sL (sN P 0 (pn P) r) 0 (pn P) c) 0 i).toInt ≤ _
          rw [rL]
          split
          · omega
          · exact b0
theorem ocA_snoc {H N : Nat → Nat} {Z : Nat → Int32} {c : Nat} : ∀ (m j : Nat), N (j + m) = 0 → ocA H N Z c (m + 1) j = ocA H N Z c m j
  | 0, j, h => by
    rw [Nat.add_zero] at h
    unfold ocA
    rw [h]
    unfold ocA occ
    split <;> rfl
  | m + 1, j, h => by
    unfold ocA
    rw [ocA_snoc m (j + 1) (by rw [show j + 1 + m = j + (m + 1) by omega]; exact h)]
theorem inv_asset (h : Inv (t + 1) P) : Inv t (o_asset P).2.2 := by
  unfold o_asset
  split
  · exact h.less
  · split
    · exact h.less
    · rename_i e
      have e := Classical.not_not.mp e
      refine ⟨⟨fun i => ?_, h.1.2.1, fun j hj => ?_⟩, fun _ => (h.2 e).less⟩
      · show pI P 5 i = nI (ocA (fun q => pN P 2 q) (fun j => pN P 1 j) (fun j => pI P 1 j) i (pa P + 1) 0)
        rw [ocA_snoc (pa P) 0 (by rw [Nat.zero_add]; exact (h.1.2.2 (pa P) (Nat.le_refl _)).1)]
        exact h.1.1 i
      · have hj : pa P + 1 ≤ j := hj
        exact h.1.2.2 j (by omega)
theorem rN (P : pP) (f i : Nat) (x : Nat) (g q : Nat) : pN (sN P f i x) g q = if g = f ∧ q = i then x else pN P g q := rfl
theorem occ_ext {H H' : Nat → Nat} {c : Nat} : ∀ (m q : Nat), (∀ x, q ≤ x → x < q + m → H' x = H x) → occ H' c m q = occ H c m q
  | 0, _, _ => rfl
  | m + 1, q, h => by
    unfold occ
    rw [h q (Nat.le_refl _) (by omega), occ_ext m (q + 1) (fun x h1 h2 => h x (by omega) (by omega))]
theorem occ_snoc {H : Nat → Nat} {c : Nat} : ∀ (m q : Nat), occ H c (m + 1) q = occ H c m q + (if H (q + m) = c then 1 else 0)
  | 0, q => by unfold occ; unfold occ; rw [Nat.add_zero, Nat.zero_add, Nat.add_zero]
  | m + 1, q => by
    rw [show occ H c (m + 1 + 1) q = (if H q = c then 1 else 0) + occ H c (m + 1) (q + 1) from rfl, occ_snoc m (q + 1), show q + 1 + m = q + (m + 1) by omega, show occ H c (m + 1) q = (if H q = c then 1 else 0) + occ H c m (q + 1) from rfl]
    omega
theorem ocA_sec {H H' N N' : Nat → Nat} {Z : Nat → Int32} {c d q a : Nat} (hq : Z q = 0) (h4 : N q < 4) (hN : N' q = N q + 1) (hN' : ∀ x, x ≠ q → N' x = N x) (hH : H' (4 * q + N q) = d) (hH' : ∀ x, x ≠ 4 * q + N q → H' x = H x) (h5 : ∀ x, x < a → N x ≤ 4) : ∀ (m j : Nat), j + m = a → ocA H' N' Z c m j = ocA H N Z c m j + (if j ≤ q ∧ q < j + m ∧ d = c then 1 else 0)
  | 0, j, _ => by unfold ocA; rw [if_neg (by omega)]
  | m + 1, j, hm => by
    unfold ocA
    rw [ocA_sec hq h4 hN hN' hH hH' h5 m (j + 1) (by omega)]
    by_cases e : j = q
    · subst e
      rw [if_pos hq, if_pos hq, hN, occ_snoc, hH, occ_ext (H := H) (H' := H') (N j) (4 * j) (fun x h1 h2 => hH' x (by omega))]
      by_cases g : d = c
      · rw [if_pos g, if_neg (show ¬ (j + 1 ≤ j ∧ j < j + 1 + m ∧ d = c) by omega), if_pos (show j ≤ j ∧ j < j + (m + 1) ∧ d = c from ⟨Nat.le_refl _, by omega, g⟩)]
        omega
      · rw [if_neg g, if_neg (fun x => g x.2.2), if_neg (fun x => g x.2.2)]
        omega
    · have n4 := h5 j (by omega)
      rw [hN' j e, occ_ext (H := H) (H' := H') (N j) (4 * j) (fun x h1 h2 => hH' x (by omega))]
      by_cases g : j + 1 ≤ q ∧ q < j + 1 + m ∧ d = c
      · rw [if_pos g, if_pos (show j ≤ q ∧ q < j + (m + 1) ∧ d = c from ⟨by omega, by omega, g.2.2⟩)]
        omega
      · have g2 : ¬ (j ≤ q ∧ q < j + (m + 1) ∧ d = c) := fun x => g ⟨by omega, by omega, x.2.2⟩
        simp only [if_neg g, if_neg g2]
        omega
theorem inv_sec (h : Inv (t + 1) P) (w : wf v P) (hj : j < pa P) (hi : i < pn P) (l : Int64) : Inv t (o_sec P j i l).2.2 := by
  unfold o_sec
  split
  · exact h.less
  · rename_i g
    split
    · exact h.less
    · rename_i h4
      split
      · exact h.less
      · rename_i e
        split
        · exact h.less
        · rename_i e1
          split
          · exact h.less
          · split
            · exact h.less
            · split
              · have e := Classical.not_not.mp e
                have e1 := Classical.not_not.mp e1
                have h4 := Classical.not_not.mp h4
                have c1 := cents_i g
                rw [show (1 : Int64).toInt = 1 from by decide] at c1
                have b := (h.2 e).less
                refine ⟨⟨fun x => ?_, fun x hx => ?_, fun x hx => ?_⟩, fun _ => ⟨fun x => b.1 x, fun x => ?_, b.2.2⟩⟩
                · have o := ocA_sec (H := fun q => pN P 2 q) (H' := fun q => pN (p_sec P j i l) 2 q) (N := fun q => pN P 1 q) (N' := fun q => pN (p_sec P j i l) 1 q) (Z := fun q => pI P 1 q) (c := x) (d := i) (q := j) (a := pa P) e1 h4 (s2_self _ _ _ _) (fun x hx => by
                    show pN (sN _ 1 j _) 1 x = _
                    rw [rN, if_neg (fun e => hx e.2)]; rfl) (by
                    show pN (sN (sL P 5 _ l) 2 (4 * j + pN P 1 j) i) 2 (4 * j + pN P 1 j) = i
                    exact s2_self _ _ _ _) (fun x hx => by
                    show pN (sN (sL P 5 _ l) 2 (4 * j + pN P 1 j) i) 2 x = _
                    rw [rN, if_neg (fun e => hx e.2)]; rfl) (fun x hx => w.mn hx) (pa P) 0 (by omega)
                  show pI (sI (p_sec P j i l) 5 i (pI P 5 i + 1)) 5 x = nI (ocA (fun q => pN (p_sec P j i l) 2 q) (fun q => pN (p_sec P j i l) 1 q) (fun q => pI P 1 q) x (pa P) 0)
                  rw [o, rI]
                  by_cases ex : x = i
                  · rw [if_pos ⟨rfl, ex⟩, if_pos (show 0 ≤ j ∧ j < 0 + pa P ∧ i = x from ⟨by omega, by omega, ex.symm⟩), h.1.1 i, nI_1, ex]
                  · rw [if_neg (fun e => ex e.2), if_neg (fun e => ex e.2.2.symm), Nat.add_zero]
                    exact h.1.1 x
                · have hx : pn P ≤ x := hx
                  obtain ⟨z1, z2, z3, z4, z5, z6⟩ := h.1.2.1 x hx
                  refine ⟨z1, z2, z3, z4, z5, ?_⟩
                  show pI (sI (p_sec P j i l) 5 i (pI P 5 i + 1)) 5 x = 0
                  rw [rI, if_neg (fun e => by omega)]
                  exact z6
                · have hx : pa P ≤ x := hx
                  obtain ⟨z1, z2, z3⟩ := h.1.2.2 x hx
                  refine ⟨?_, z2, fun k hk => ?_⟩
                  · show pN (sN _ 1 j _) 1 x = 0
                    rw [rN, if_neg (fun e => by omega)]
                    exact z1
                  · show pL (sL P 5 (4 * j + pN P 1 j) l) 5 (4 * x + k) = 0
                    rw [rL, if_neg (fun e => by omega)]
                    exact z3 k hk
                · show 0 ≤ (pL (sL P 5 (4 * j + pN P 1 j) l) 5 x).toInt
                  rw [rL]
                  split
                  · omega
                  · exact b.2.1 x
              · exact h.less
theorem inv_div (h : Inv (t + 1) P) (w : wf v P) (hp : p ≤ 10000) : Inv t (o_div p_open P r p).2.2 := by
  unfold o_div
  split
  · exact h.less
  · rename_i e
    split
    · exact h.less
    · split
      · exact h.less
      · split
        · exact h.less
        · have e := Classical.not_not.mp e
          have k : Bas (sN P 3 r p) := by
            refine ⟨fun i => h.1.1 i, fun i hi => h.1.2.1 i hi, fun j hj => ?_⟩
            obtain ⟨z1, z2⟩ := h.1.2.2 j hj
            exact ⟨z1, z2⟩
          have b : Bnd t (sN P 3 r p) := (h.2 e).less
          refine ⟨k.lk (lk_serveR p_open (r + 1) 0 (sN P 3 r p) 0), fun _ => Bnd.serveR p_open (r + 1) 0 (sN P 3 r p) 0 b w.1 (fun x => ?_)⟩
          rw [rN]
          split
          · exact hp
          · exact w.pc x
theorem inv_catch (h : Inv (t + 1) P) (w : wf v P) : Inv t (o_catch p_open P).2.2 := by
  unfold o_catch
  split
  · exact h.less
  · rename_i e
    have e := Classical.not_not.mp e
    exact ⟨h.1.lk (lk_serveR p_open 8 0 P 0), fun _ => Bnd.serveR p_open 8 0 P 0 (h.2 e).less w.1 w.pc⟩
theorem Bnd.set (h : Bnd t P) (hi : i < 60) {n : Int64} (h0 : 0 ≤ n.toInt) (h1 : n.toInt ≤ (pL P 0 i).toInt) : Bnd t (p_set P i n) := by
  unfold p_set
  split
  · exact h
  · obtain ⟨b0, b1⟩ := h.1 i
    have r0 : pL (sL (sI P 0 i 0) 0 i n) 0 i = n := s2_self _ _ _ _
    refine h.ef (i := i) ⟨fun f hf q hq => ?_, fun q => rfl, fun j => rfl⟩ hi ⟨?_, b1⟩ h.2.2.1 (Int.le_refl _)
    · rw [rL, if_neg (fun e => hq e.2)]; rfl
    · rw [r0]; omega
theorem above_b (h : Bnd t P) (hp : pN P 3 (pN P 0 i) ≤ 10000) : 0 ≤ (p_above P i).toInt ∧ (p_above P i).toInt ≤ (pL P 4 i).toInt := by
  obtain ⟨d1, d2⟩ := due_b (h.1 i) hp
  obtain ⟨n1, n2, _⟩ := net_b (h.1 i)
  obtain ⟨b0, b1, b2, b3, b4⟩ := h.1 i
  have e : (pL P 4 i - p_dueOf P i).toInt = (pL P 4 i).toInt - (p_dueOf P i).toInt := sub_i (by unfold p_dueOf; omega)
  unfold p_above
  split
  · rw [z_i]; omega
  · rename_i q
    rw [lt_i, z_i] at q
    unfold p_dueOf at *
    omega
theorem set_N (P : pP) (i : Nat) (n : Int64) : (p_set P i n).2.1 = P.2.1 := by
  unfold p_set
  split <;> rfl
theorem inv_settle (h : Inv (t + 1) P) (w : wf v P) (hi : i < pn P) (n : Int64) : Inv t (o_settle p_open P i n).2.2 := by
  have n60 := w.1
  unfold o_settle
  split
  · exact h.less
  · rename_i q0
    split
    · exact h.less
    · rename_i q1
      split
      · exact h.less
      · rename_i e
        split
        · exact h.less
        · have e := Classical.not_not.mp e
          have q1 := Classical.not_not.mp q1
          rw [lt_i, z_i] at q0
          rw [le_i] at q1
          have k := lk_set hi n
          have hi' : i < pn (p_set P i n) := by rw [k.1.1]; exact hi
          have b := (h.2 e).less.set (i := i) (by omega) (n := n) (by omega) q1
          have hp : pN (p_set P i n) 3 (pN (p_set P i n) 0 i) ≤ 10000 := by
            show (p_set P i n).2.1 3 ((p_set P i n).2.1 0 i) ≤ 10000
            rw [set_N]; exact w.pc _
          split
          · obtain ⟨a1, a2⟩ := above_b b hp
            exact ⟨h.1.lk (k.trans (lk_release hi' _)), fun _ => b.release (by omega) a1 a2⟩
          · exact ⟨h.1.lk (k.trans (lk_resolve _ hi')), fun _ => b.resolve (by omega) hp _⟩
theorem settle_eq (h : Inv t P) (w : wf v P) (hi : i < pn P) (n : Int64) : o_settle p_openM P i n = o_settle p_open P i n := by
  have k := lk_set hi n
  have e := open_eq' (h.1.1.lk k) (w.sm.sh k.1) i
  unfold o_settle
  rw [e]
theorem inv_real (h : Inv (t + 1) P) (w : wf v P) (hj : j < pa P) (n : Int64) : Inv t (m_real p_open P j n).2.2 := by
  unfold m_real
  split
  · exact h.less
  · rename_i g
    split
    · exact h.less
    · rename_i e
      split
      · exact h.less
      · rename_i e1
        split
        · exact h.less
        · have e := Classical.not_not.mp e
          have e1 := Classical.not_not.mp e1
          have c1 := cents_i g
          rw [z_i] at c1
          have b := (h.2 e).less.real3 w hj e1 (n := n) ⟨by omega, c1.2⟩
          have s := sh_real3 P j n
          refine ⟨(h.1.real3 w hj e1 n).lk (lk_resolves p_open (pn (m_real3 P j n)) 0 (m_real3 P j n) (by omega)), fun _ => Bnd.resolves p_open (pn (m_real3 P j n)) 0 (m_real3 P j n) b (by rw [s.1]; have := w.1; omega) (fun r => ?_)⟩
          show (m_real3 P j n).2.1 3 r ≤ 10000
          rw [s.2.2]; exact w.pc r
theorem real_eq2 (h : Inv t P) (w : wf v P) (hj : j < pa P) (n : Int64) : m_real p_openM P j n = o_real p_open P j n := by
  rw [real_eq]
  unfold m_real
  by_cases e1 : pI P 1 j = 0
  · have s := sh_real3 P j n
    rw [resolves_eq (pn (m_real3 P j n)) 0 (m_real3 P j n) (h.1.real3 w hj e1 n).1 (w.sm.sh s) (by omega)]
  · simp only [if_pos (show ¬ pI P 1 j = 0 from e1)]
theorem div_eq (h : Inv t P) (w : wf v P) (r p : Nat) : o_div p_openM P r p = o_div p_open P r p := by
  unfold o_div
  rw [serveR_eq (r + 1) 0 (sN P 3 r p) 0 (fun i => h.1.1 i) w.sm]
theorem catch_eq (h : Inv t P) (w : wf v P) : o_catch p_openM P = o_catch p_open P := by
  unfold o_catch
  rw [serveR_eq (7 + 1) 0 P 0 h.1.1 w.sm]
end INV4
