/-! cells that are made: new tags, new addresses -/
section GROW
variable {u v : Nat} {X X' : xX} {P P' M : pP} {z z' : zZ} {h : mm_H} {i j T n : Nat} {c : mm_C}
theorem ct0_addr (hX : ∀ t, lv X P t → X'.1 t = X.1 t) (hs : X'.2.2 = X.2.2) : ct0 X' P M z = ct0 X P M z := by
  have e : ∀ k, k < 29 → X'.1 k = X.1 k := fun k hk => hX k (Or.inl (by omega))
  have f1 : (fun i => if i < pn P then Value.ref (X'.1 (100 + i)) else .null) = (fun i => if i < pn P then Value.ref (X.1 (100 + i)) else .null) := by
    funext i
    split
    · rw [hX (100 + i) (Or.inr (Or.inl (by omega)))]
    · rfl
  have f2 : (fun j => if j < pa P then Value.ref (X'.1 (200 + j)) else .null) = (fun j => if j < pa P then Value.ref (X.1 (200 + j)) else .null) := by
    funext j
    split
    · rw [hX (200 + j) (Or.inr (Or.inr (Or.inl (by omega))))]
    · rfl
  unfold ct0 fx fj fm
  rw [f1, f2, hs]
  simp only [e 1 (by decide), e 2 (by decide), e 3 (by decide), e 4 (by decide), e 5 (by decide), e 6 (by decide), e 7 (by decide), e 9 (by decide), e 10 (by decide), e 11 (by decide), e 12 (by decide), e 13 (by decide), e 14 (by decide), e 15 (by decide), e 16 (by decide), e 17 (by decide), e 18 (by decide), e 19 (by decide), e 20 (by decide), e 21 (by decide), e 22 (by decide), e 23 (by decide), e 24 (by decide), e 25 (by decide), e 26 (by decide)]
theorem ct_addr (hX : ∀ t, lv X P t → X'.1 t = X.1 t) (hs : X'.2.2 = X.2.2) (w : wf v P) (hw : X.2.1 ≤ 2) : ∀ t, lv X P t → ct X' P M z t = ct X P M z t := by
  intro t ht
  have n60 := w.1
  have a20 := w.2.1
  unfold ct
  rw [ct0_addr hX hs]
  split
  · rfl
  · rename_i h1
    split
    · rfl
    · rename_i h2
      split
      · rename_i h3
        have hj : t - 200 < pa P := by
          rcases ht with q | q | q | q | q <;> first | omega | (have := w.1; omega)
        unfold ctA fa
        rw [hX (300 + (t - 200)) (Or.inr (Or.inr (Or.inr (Or.inl (by omega))))), hX (400 + (t - 200)) (Or.inr (Or.inr (Or.inr (Or.inr (by omega)))))]
      · rename_i h3
        split
        · rename_i h4
          have hj : t - 300 < pa P := by
            rcases ht with q | q | q | q | q <;> omega
          unfold ctH
          have f : (fun k => if k < pN P 1 (t - 300) then Value.ref (X'.1 (100 + pN P 2 (4 * (t - 300) + k))) else .null) = (fun k => if k < pN P 1 (t - 300) then Value.ref (X.1 (100 + pN P 2 (4 * (t - 300) + k))) else .null) := by
            funext k
            split
            · rename_i hk
              have := w.hd hj hk
              rw [hX (100 + pN P 2 (4 * (t - 300) + k)) (Or.inr (Or.inl (by omega)))]
            · rfl
          rw [f]
        · rfl
theorem Rep.grow (R : Rep (u + 1) v X P M z h) (hX : ∀ t, lv X P t → X'.1 t = X.1 t) (hT : X'.1 T = h.1) (hl : ∀ t, lv X' P' t → lv X P t ∨ t = T) (hc : ct X' P' M z' T = c) (ho : ∀ t, lv X P t → ct X' P' M z' t = ct X P M z t) (wP : wf v P') (hw : X'.2.1 ≤ 2) (hn : n ≤ 60) : Rep u v X' P' M z' (mm_push h n c) := by
  refine ⟨fun t ht => ?_, fun t t' ht ht' e => ?_, ?_, wP, R.wM, hw⟩
  · rcases hl t ht with q | q
    · obtain ⟨h1, h2⟩ := R.1 t q
      rw [hX t q]
      refine ⟨?_, Nat.lt_succ_of_lt h2⟩
      rw [mm_push_ne _ _ _ (Nat.ne_of_lt h2), h1, ho t q]
    · subst q
      rw [hT]
      refine ⟨?_, Nat.lt_succ_self _⟩
      rw [mm_push_self, hc]
  · rcases hl t ht with q | q
    · have g := (R.1 t q).2
      rcases hl t' ht' with q' | q'
      · rw [hX t q, hX t' q'] at e
        exact R.2.1 t t' q q' e
      · subst q'
        rw [hX t q, hT] at e
        omega
    · subst q
      rcases hl t' ht' with q' | q'
      · have g := (R.1 t' q').2
        rw [hX t' q', hT] at e
        omega
      · exact q'.symm
  · obtain ⟨h1, h2⟩ := R.2.2.1
    exact ⟨(show u ≤ h.2.1.1 - 1 by omega), (show 60 * u ≤ h.2.1.2 - n by omega)⟩
/-- other addresses at tags that have no cell; the class's own rows of the last sharing given up -/
theorem Rep.close (R : Rep u v X' P M z' h) (h0 : X.2.1 = 0) (hX : ∀ t, lv X P t → X'.1 t = X.1 t) (hs : X'.2.2 = X.2.2) (h1 : z'.1 = z.1) (h2 : ∀ g, g ≠ 3 → g ≠ 4 → z'.2 g = z.2 g) : Rep u v X P M z h := by
  have hl : ∀ t, lv X P t → lv X' P t := by
    intro t ht
    rcases ht with q | q
    · exact Or.inl (by omega)
    · exact Or.inr q
  have hz : ∀ t, lv X P t → ct X P M z' t = ct X P M z t := by
    intro t ht
    have hl29 : ct0 X P M z' = ((ct0 X P M z).set 29 (.inr (1, pn P, fun i => .long (z'.2 3 i)))).set 30 (.inr (1, pn P, fun i => .long (z'.2 4 i))) := by
      unfold ct0 fm
      rw [h1, h2 0 (by decide) (by decide), h2 1 (by decide) (by decide), h2 2 (by decide) (by decide), h2 5 (by decide) (by decide)]
      rfl
    unfold ct
    rw [hl29]
    split
    · have h29 : t < 29 := by
        rcases ht with q | q | q | q | q <;> omega
      rw [List.getD_eq_getElem?_getD, List.getD_eq_getElem?_getD, List.getElem?_set_ne (by omega), List.getElem?_set_ne (by omega)]
    · rfl
  refine ⟨fun t ht => ?_, fun t t' ht ht' e => R.2.1 t t' (hl t ht) (hl t' ht') ((hX t ht).trans (e.trans (hX t' ht').symm)), R.2.2.1, R.wP, R.wM, by omega⟩
  obtain ⟨g1, g2⟩ := R.1 t (hl t ht)
  rw [hX t ht] at g1 g2
  exact ⟨by rw [g1, ct_addr hX hs R.wP (by omega) t ht, hz t ht], g2⟩
/-- a cell that is none of ours -/
theorem Rep.off {a : Nat} (R : Rep u v X P M z h) (ha : ∀ t, lv X P t → X.1 t ≠ a) (c : mm_C) : Rep u v X P M z (mm_upd h a c) :=
  ⟨fun t ht => ⟨by rw [mm_upd_ne _ _ (ha t ht)]; exact (R.1 t ht).1, (R.1 t ht).2⟩, R.2⟩
def xA (X : xX) (t a : Nat) (w : Nat) : xX := (fun q => if q = t then a else X.1 q, w, X.2.2)
theorem xA_ne (X : xX) {t a w q : Nat} (h : q ≠ t) : (xA X t a w).1 q = X.1 q := if_neg h
theorem xA_self (X : xX) (t a w : Nat) : (xA X t a w).1 t = a := if_pos rfl
/-- the two rows of the last sharing -/
def zr (z : zZ) (A B : Nat → Int64) : zZ := (z.1, fun g => if g = 3 then A else if g = 4 then B else z.2 g)
def uF (A : Nat → Int64) (q : Nat) (x : Int64) : Nat → Int64 := fun i => if i = q then x else A i
theorem zr_A (z : zZ) (A B : Nat → Int64) (q : Nat) (x : Int64) : ((zr z A B).1, s2 (zr z A B).2 3 q x) = zr z (uF A q x) B := by
  refine Prod.ext rfl ?_
  funext g i
  show s2 (zr z A B).2 3 q x g i = (zr z (uF A q x) B).2 g i
  unfold s2 zr uF
  by_cases h3 : g = 3
  · subst h3
    by_cases hi : i = q
    · simp [hi]
    · simp [hi]
  · simp [h3]
theorem zr_B (z : zZ) (A B : Nat → Int64) (q : Nat) (x : Int64) : ((zr z A B).1, s2 (zr z A B).2 4 q x) = zr z A (uF B q x) := by
  refine Prod.ext rfl ?_
  funext g i
  show s2 (zr z A B).2 4 q x g i = (zr z A (uF B q x)).2 g i
  unfold s2 zr uF
  by_cases h3 : g = 3
  · subst h3; simp
  · by_cases h4 : g = 4
    · subst h4
      by_cases hi : i = q
      · simp [hi]
      · simp [hi]
    · simp [h3, h4]
theorem Rep.arr1 (R : Rep (u + 1) v X P M z h) (h0 : X.2.1 = 0) : Rep u v (xA X 29 h.1 1) P M (zr z (fun _ => 0) (z.2 4)) (mm_push h (pn P) (.inr (1, pn P, fun _ => .long 0))) := by
  have hX : ∀ t, lv X P t → (xA X 29 h.1 1).1 t = X.1 t := fun t ht => xA_ne X (by rcases ht with q | q | q | q | q <;> omega)
  refine R.grow (T := 29) hX (xA_self _ _ _ _) (fun t ht => ?_) rfl (fun t ht => ?_) R.wP (by show 1 ≤ 2; omega) R.n60
  · rcases ht with q | q
    · have q : t < 29 + 1 := q
      by_cases e : t = 29
      · exact Or.inr e
      · exact Or.inl (Or.inl (by omega))
    · exact Or.inl (Or.inr q)
  · rw [ct_addr hX rfl R.wP R.2.2.2.2.2 t ht]
    exact ct_tag (t0 := 29) (c := .inr (1, pn P, fun _ => .long 0)) rfl (fun _ => rfl) (fun _ => rfl) (fun _ => rfl) (fun _ => rfl) t ht (by rcases ht with q | q | q | q | q <;> omega)
theorem Rep.arr2 {A : Nat → Int64} (R : Rep (u + 1) v X P M (zr z A (z.2 4)) h) (h0 : X.2.1 = 1) : Rep u v (xA X 30 h.1 2) P M (zr z A (fun _ => 0)) (mm_push h (pn P) (.inr (1, pn P, fun _ => .long 0))) := by
  have hX : ∀ t, lv X P t → (xA X 30 h.1 2).1 t = X.1 t := fun t ht => xA_ne X (by rcases ht with q | q | q | q | q <;> omega)
  refine R.grow (T := 30) hX (xA_self _ _ _ _) (fun t ht => ?_) rfl (fun t ht => ?_) R.wP (by show 2 ≤ 2; omega) R.n60
  · rcases ht with q | q
    · have q : t < 29 + 2 := q
      by_cases e : t = 30
      · exact Or.inr e
      · exact Or.inl (Or.inl (by omega))
    · exact Or.inl (Or.inr q)
  · rw [ct_addr hX rfl R.wP R.2.2.2.2.2 t ht]
    exact ct_tag (t0 := 30) (c := .inr (1, pn P, fun _ => .long 0)) rfl (fun _ => rfl) (fun _ => rfl) (fun _ => rfl) (fun _ => rfl) t ht (by rcases ht with q | q | q | q | q <;> omega)
end GROW
