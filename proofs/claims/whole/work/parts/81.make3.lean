section MAKE3
variable {u v d : Nat} {X : xX} {P M : pP} {z : zZ} {h h' : mm_H} {i j a b c : Nat}
def p_asset (P : pP) : pP := sC P (pn P) (pa P + 1) (pj P)
def Za (P : pP) (j : Nat) : Prop := pN P 1 j = 0 ∧ pI P 1 j = 0 ∧ ∀ k, k < 4 → pL P 5 (4 * j + k) = 0
def xB (X : xX) (n a b c : Nat) : xX := (fun q => if q = 200 + n then a else if q = 300 + n then b else if q = 400 + n then c else X.1 q, 0, X.2.2)
theorem xB_ne {n q : Nat} (h1 : q ≠ 200 + n) (h2 : q ≠ 300 + n) (h3 : q ≠ 400 + n) : (xB X n a b c).1 q = X.1 q := by
  show (if q = 200 + n then a else if q = 300 + n then b else if q = 400 + n then c else X.1 q) = X.1 q
  rw [if_neg h1, if_neg h2, if_neg h3]
theorem xB_a (n : Nat) : (xB X n a b c).1 (200 + n) = a := if_pos rfl
theorem xB_b (n : Nat) : (xB X n a b c).1 (300 + n) = b := by
  show (if 300 + n = 200 + n then a else if 300 + n = 300 + n then b else _) = b
  rw [if_neg (by omega), if_pos rfl]
theorem xB_c (n : Nat) : (xB X n a b c).1 (400 + n) = c := by
  show (if 400 + n = 200 + n then a else if 400 + n = 300 + n then b else if 400 + n = 400 + n then c else _) = c
  rw [if_neg (by omega), if_neg (by omega), if_pos rfl]
theorem wf_asset (w : wf v P) (hn : pa P < 20) (hz : Za P (pa P)) : wf v (p_asset P) := by
  refine ⟨w.1, by show pa P + 1 ≤ 20; omega, w.2.2.1, w.2.2.2.1, fun q hq => ?_, fun q hq k hk => ?_, w.2.2.2.2.2.2⟩
  · have hq : q < pa P + 1 := hq
    by_cases e : q = pa P
    · show pN P 1 q ≤ 4
      rw [e, hz.1]; omega
    · exact w.mn (by omega)
  · have hq : q < pa P + 1 := hq
    by_cases e : q = pa P
    · have hk : k < pN P 1 q := hk
      rw [e, hz.1] at hk
      omega
    · exact w.hd (by omega) hk
theorem Rep.addAsset (R : Rep u v X P M z h) (h0 : X.2.1 = 0) (hn : pa P < 20) (hz : Za P (pa P)) (ha : ∀ t, lv X P t → X.1 t ≠ a) (hb : ∀ t, lv X P t → X.1 t ≠ b) (hc : ∀ t, lv X P t → X.1 t ≠ c) (hab : a ≠ b) (hac : a ≠ c) (hbc : b ≠ c) (ha1 : a < h.1) (hb1 : b < h.1) (hc1 : c < h.1)
    (ga : h.2.2 a = some (.inl (2, [.ref b, .ref c, .int 0, .int 0]))) (gb : h.2.2 b = some (.inr (3, 4, fun _ => .null))) (gc : h.2.2 c = some (.inr (1, 4, fun _ => .long 0))) :
    Rep u v (xB X (pa P) a b c) (p_asset P) M z (mm_upd (mm_upd h (X.1 2) (.inr (4, 20, updV (fun j => if j < pa P then .ref (X.1 (200 + j)) else .null) (pa P) (.ref a)))) (X.1 0) (.inl (0, (fx X P).set 3 (.int (nI (pa P + 1)))))) := by
  have n60 := R.n60
  have hX : ∀ t, lv X P t → (xB X (pa P) a b c).1 t = X.1 t := fun t ht => xB_ne (by rcases ht with q | q | q | q | q <;> omega) (by rcases ht with q | q | q | q | q <;> omega) (by rcases ht with q | q | q | q | q <;> omega)
  have hl : ∀ t, lv (xB X (pa P) a b c) (p_asset P) t → lv X P t ∨ t = 200 + pa P ∨ t = 300 + pa P ∨ t = 400 + pa P := by
    intro t ht
    rcases ht with q | q | q | q | q
    · exact Or.inl (Or.inl (by have q : t < 29 + 0 := q; omega))
    · exact Or.inl (Or.inr (Or.inl q))
    · have q : 200 ≤ t ∧ t < 200 + (pa P + 1) := q
      by_cases e : t = 200 + pa P
      · exact Or.inr (Or.inl e)
      · exact Or.inl (Or.inr (Or.inr (Or.inl (by omega))))
    · have q : 300 ≤ t ∧ t < 300 + (pa P + 1) := q
      by_cases e : t = 300 + pa P
      · exact Or.inr (Or.inr (Or.inl e))
      · exact Or.inl (Or.inr (Or.inr (Or.inr (Or.inl (by omega)))))
    · have q : 400 ≤ t ∧ t < 400 + (pa P + 1) := q
      by_cases e : t = 400 + pa P
      · exact Or.inr (Or.inr (Or.inr e))
      · exact Or.inl (Or.inr (Or.inr (Or.inr (Or.inr (by omega)))))
  have l0 : lv X P 0 := Or.inl (by omega)
  have l2 : lv X P 2 := Or.inl (by omega)
  have hC0 : ct0 (xB X (pa P) a b c) P M z = ct0 X P M z := ct0_addr hX rfl
  obtain ⟨z1, z2, z3⟩ := hz
  have key : ∀ t, lv (xB X (pa P) a b c) (p_asset P) t → (mm_upd (mm_upd h (X.1 2) (.inr (4, 20, updV (fun j => if j < pa P then .ref (X.1 (200 + j)) else .null) (pa P) (.ref a)))) (X.1 0) (.inl (0, (fx X P).set 3 (.int (nI (pa P + 1)))))).2.2 ((xB X (pa P) a b c).1 t) = some (ct (xB X (pa P) a b c) (p_asset P) M z t) := by
    intro t ht
    rcases hl t ht with q | q | q | q
    · rw [hX t q]
      by_cases e0 : t = 0
      · subst e0
        rw [mm_upd_self]
        show _ = some (Sum.inl (0, fx (xB X (pa P) a b c) (p_asset P)))
        unfold fx
        rw [hX 1 (Or.inl (by omega)), hX 2 l2, hX 3 (Or.inl (by omega)), hX 4 (Or.inl (by omega))]
        rfl
      · rw [mm_upd_ne _ _ (fun x => e0 (R.2.1 _ _ q l0 x))]
        by_cases e1 : t = 2
        · subst e1
          rw [mm_upd_self]
          show _ = some (Sum.inr (4, 20, fun j => if j < pa P + 1 then Value.ref ((xB X (pa P) a b c).1 (200 + j)) else .null))
          refine congrArg (fun f => some (Sum.inr (4, 20, f) : mm_C)) ?_
          funext i
          unfold updV
          dsimp only
          by_cases ei : i = pa P
          · rw [if_pos ei, if_pos (by omega), ei, xB_a]
          · rw [if_neg ei]
            by_cases ei2 : i < pa P
            · rw [if_pos ei2, if_pos (by omega), hX (200 + i) (Or.inr (Or.inr (Or.inl (by omega))))]
            · rw [if_neg ei2, if_neg (by omega)]
        · rw [mm_upd_ne _ _ (fun x => e1 (R.2.1 _ _ q l2 x)), (R.1 t q).1]
          refine congrArg some ?_
          rw [← ct_addr (X' := xB X (pa P) a b c) hX rfl R.wP R.2.2.2.2.2 t q]
          unfold ct
          split
          · have hL : ct0 (xB X (pa P) a b c) (p_asset P) M z = ((ct0 (xB X (pa P) a b c) P M z).set 0 (.inl (0, fx (xB X (pa P) a b c) (p_asset P)))).set 2 (.inr (4, 20, fun j => if j < pa P + 1 then .ref ((xB X (pa P) a b c).1 (200 + j)) else .null)) := rfl
            rw [hL]
            simp only [List.getD_eq_getElem?_getD]
            rw [List.getElem?_set_ne (by omega), List.getElem?_set_ne (by omega)]
          · rfl
    · subst q
      rw [xB_a, mm_upd_ne _ _ (Ne.symm (ha 0 l0)), mm_upd_ne _ _ (Ne.symm (ha 2 l2)), ga, ct_A (by omega)]
      unfold ctA fa
      rw [xB_b, xB_c, show pN (p_asset P) 1 (pa P) = 0 from z1, show pI (p_asset P) 1 (pa P) = 0 from z2]
      rfl
    · subst q
      rw [xB_b, mm_upd_ne _ _ (Ne.symm (hb 0 l0)), mm_upd_ne _ _ (Ne.symm (hb 2 l2)), gb, ct_H (by omega)]
      unfold ctH
      rw [show pN (p_asset P) 1 (pa P) = 0 from z1]
      refine congrArg (fun f => some (Sum.inr (3, 4, f) : mm_C)) ?_
      funext k
      rw [if_neg (by omega)]
    · subst q
      rw [xB_c, mm_upd_ne _ _ (Ne.symm (hc 0 l0)), mm_upd_ne _ _ (Ne.symm (hc 2 l2)), gc, ct_L (by omega)]
      unfold ctL
      refine congrArg (fun f => some (Sum.inr (1, 4, f) : mm_C)) ?_
      funext k
      split
      · rename_i hk
        rw [show pL (p_asset P) 5 (4 * pa P + k) = 0 from z3 k hk]
      · rfl
  refine ⟨fun t ht => ⟨key t ht, ?_⟩, fun t t' ht ht' e => ?_, R.2.2.1, wf_asset R.wP hn ⟨z1, z2, z3⟩, R.wM, by show 0 ≤ 2; omega⟩
  · rcases hl t ht with q | q | q | q
    · rw [hX t q]; exact (R.1 t q).2
    · subst q; rw [xB_a]; exact ha1
    · subst q; rw [xB_b]; exact hb1
    · subst q; rw [xB_c]; exact hc1
  · rcases hl t ht with q | q | q | q <;> rcases hl t' ht' with q' | q' | q' | q'
    · rw [hX t q, hX t' q'] at e; exact R.2.1 t t' q q' e
    · subst q'; rw [hX t q, xB_a] at e; exact absurd e (ha t q)
    · subst q'; rw [hX t q, xB_b] at e; exact absurd e (hb t q)
    · subst q'; rw [hX t q, xB_c] at e; exact absurd e (hc t q)
    · subst q; rw [hX t' q', xB_a] at e; exact absurd e.symm (ha t' q')
    · omega
    · subst q; subst q'; rw [xB_a, xB_b] at e; exact absurd e hab
    · subst q; subst q'; rw [xB_a, xB_c] at e; exact absurd e hac
    · subst q; rw [hX t' q', xB_b] at e; exact absurd e.symm (hb t' q')
    · subst q; subst q'; rw [xB_a, xB_b] at e; exact absurd e.symm hab
    · omega
    · subst q; subst q'; rw [xB_b, xB_c] at e; exact absurd e hbc
    · subst q; rw [hX t' q', xB_c] at e; exact absurd e.symm (hc t' q')
    · subst q; subst q'; rw [xB_a, xB_c] at e; exact absurd e.symm hac
    · subst q; subst q'; rw [xB_b, xB_c] at e; exact absurd e.symm hbc
    · omega
end MAKE3
