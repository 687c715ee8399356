section MAKE2
variable {u v d : Nat} {X : xX} {P M : pP} {z : zZ} {h h' : mm_H} {i j c a : Nat}
/-- only the cell a differs -/
def Off (a : Nat) (h h' : mm_H) : Prop := h'.1 = h.1 ∧ h'.2.1 = h.2.1 ∧ ∀ q, q ≠ a → h'.2.2 q = h.2.2 q
theorem Off.upd (a : Nat) (h : mm_H) (c : mm_C) : Off a h (mm_upd h a c) := ⟨rfl, rfl, fun _ hq => mm_upd_ne _ _ hq⟩
theorem Off.trans {h1 h2 h3 : mm_H} (p : Off a h1 h2) (q : Off a h2 h3) : Off a h1 h3 := ⟨q.1.trans p.1, q.2.1.trans p.2.1, fun x hx => (q.2.2 x hx).trans (p.2.2 x hx)⟩
theorem Rep.offH (R : Rep u v X P M z h) (ha : ∀ t, lv X P t → X.1 t ≠ a) (o : Off a h h') : Rep u v X P M z h' := by
  refine ⟨fun t ht => ?_, R.2.1, ?_, R.2.2.2⟩
  · rw [o.2.2 _ (ha t ht), o.1]
    exact R.1 t ht
  · rw [o.2.1]
    exact R.2.2.1
def p_claim (P : pP) (r : Nat) (c : Int64) : pP := sC (sL (sN P 0 (pn P) r) 0 (pn P) c) (pn P + 1) (pa P) (pj P)
/-- what has no claim yet is 0 -/
def Zc (P : pP) (i : Nat) : Prop := pI P 0 i = 0 ∧ pL P 1 i = 0 ∧ pL P 2 i = 0 ∧ pL P 3 i = 0 ∧ pL P 4 i = 0 ∧ pI P 5 i = 0
theorem wf_claim (w : wf v P) (hn : pn P < 60) {r : Nat} (hr : r < 8) (c : Int64) : wf v (p_claim P r c) := by
  refine ⟨by show pn P + 1 ≤ 60; omega, w.2.1, w.2.2.1, fun q hq => ?_, w.2.2.2.2.1, fun q hq k hk => ?_, w.2.2.2.2.2.2⟩
  · have hq : q < pn P + 1 := hq
    show s2 P.2.1 0 (pn P) r 0 q < 8
    by_cases e : q = pn P
    · rw [e, s2_self]; exact hr
    · rw [s2_i _ _ _ _ e]
      exact w.rk (by omega)
  · exact Nat.lt_succ_of_lt (w.hd hq hk)
theorem claim_C (hz : Zc P (pn P)) (r : Nat) (c : Int64) : fc (p_claim P r c) (pn P) = [.int (nI (pn P)), .int (nI r), .int 0, .long c, .long 0, .long 0, .long 0, .long 0, .int 0] := by
  obtain ⟨z1, z2, z3, z4, z5, z6⟩ := hz
  unfold fc
  rw [show pN (p_claim P r c) 0 (pn P) = r from s2_self _ _ _ _, show pL (p_claim P r c) 0 (pn P) = c from s2_self _ _ _ _, show pI (p_claim P r c) 0 (pn P) = 0 from z1, show pL (p_claim P r c) 1 (pn P) = 0 from z2, show pL (p_claim P r c) 2 (pn P) = 0 from z3, show pL (p_claim P r c) 3 (pn P) = 0 from z4, show pL (p_claim P r c) 4 (pn P) = 0 from z5, show pI (p_claim P r c) 5 (pn P) = 0 from z6]
theorem claim_ne {q r : Nat} (c : Int64) (hq : q ≠ pn P) : fc (p_claim P r c) q = fc P q := by
  unfold fc
  rw [show pN (p_claim P r c) 0 q = pN P 0 q from s2_i _ _ _ _ hq, show pL (p_claim P r c) 0 q = pL P 0 q from s2_i _ _ _ _ hq]
  rfl
theorem Rep.addClaim {r : Nat} {c : Int64} (R : Rep u v X P M z h) (h0 : X.2.1 = 0) (hn : pn P < 60) (hr : r < 8) (hz : Zc P (pn P)) (ha : ∀ t, lv X P t → X.1 t ≠ a) (ha1 : a < h.1) (hc : h.2.2 a = some (.inl (1, [.int (nI (pn P)), .int (nI r), .int 0, .long c, .long 0, .long 0, .long 0, .long 0, .int 0]))) :
    Rep u v (xA X (100 + pn P) a 0) (p_claim P r c) M z (mm_upd (mm_upd h (X.1 1) (.inr (3, 60, updV (fun i => if i < pn P then .ref (X.1 (100 + i)) else .null) (pn P) (.ref a)))) (X.1 0) (.inl (0, (fx X P).set 1 (.int (nI (pn P + 1)))))) := by
  have a20 := R.a20
  have hX : ∀ t, lv X P t → (xA X (100 + pn P) a 0).1 t = X.1 t := fun t ht => xA_ne X (by rcases ht with q | q | q | q | q <;> omega)
  have hl : ∀ t, lv (xA X (100 + pn P) a 0) (p_claim P r c) t → lv X P t ∨ t = 100 + pn P := by
    intro t ht
    rcases ht with q | q | q
    · exact Or.inl (Or.inl (by have q : t < 29 + 0 := q; omega))
    · have q : 100 ≤ t ∧ t < 100 + (pn P + 1) := q
      by_cases e : t = 100 + pn P
      · exact Or.inr e
      · exact Or.inl (Or.inr (Or.inl (by omega)))
    · exact Or.inl (Or.inr (Or.inr q))
  have l0 : lv X P 0 := Or.inl (by omega)
  have l1 : lv X P 1 := Or.inl (by omega)
  have hC0 : ct0 (xA X (100 + pn P) a 0) P M z = ct0 X P M z := ct0_addr hX rfl
  refine ⟨fun t ht => ?_, fun t t' ht ht' e => ?_, R.2.2.1, wf_claim R.wP hn hr c, R.wM, by show 0 ≤ 2; omega⟩
  · rcases hl t ht with q | q
    · rw [hX t q]
      refine ⟨?_, (R.1 t q).2⟩
      by_cases e0 : t = 0
      · subst e0
        rw [mm_upd_self]
        show _ = some (Sum.inl (0, fx (xA X (100 + pn P) a 0) (p_claim P r c)))
        unfold fx
        rw [hX 1 l1, hX 2 (Or.inl (by omega)), hX 3 (Or.inl (by omega)), hX 4 (Or.inl (by omega))]
        rfl
      · rw [mm_upd_ne _ _ (fun x => e0 (R.2.1 _ _ q l0 x))]
        by_cases e1 : t = 1
        · subst e1
          rw [mm_upd_self]
          show _ = some (Sum.inr (3, 60, fun i => if i < pn P + 1 then Value.ref ((xA X (100 + pn P) a 0).1 (100 + i)) else .null))
          refine congrArg (fun f => some (Sum.inr (3, 60, f) : mm_C)) ?_
          funext i
          unfold updV
          by_cases ei : i = pn P
          · rw [if_pos ei, if_pos (by omega), ei, xA_self]
          · rw [if_neg ei, xA_ne X (by omega)]
            dsimp only
            by_cases ei2 : i < pn P
            · rw [if_pos ei2, if_pos (by omega)]
            · rw [if_neg ei2, if_neg (by omega)]
        · rw [mm_upd_ne _ _ (fun x => e1 (R.2.1 _ _ q l1 x)), (R.1 t q).1]
          refine congrArg some ?_
          rw [← ct_addr (X' := xA X (100 + pn P) a 0) hX rfl R.wP R.2.2.2.2.2 t q]
          unfold ct
          split
          · have h29 : t < 29 := by rcases q with q | q | q | q | q <;> omega
            have hL : ct0 (xA X (100 + pn P) a 0) (p_claim P r c) M z = ((((ct0 (xA X (100 + pn P) a 0) P M z).set 0 (.inl (0, fx (xA X (100 + pn P) a 0) (p_claim P r c)))).set 1 (.inr (3, 60, fun i => if i < pn P + 1 then .ref ((xA X (100 + pn P) a 0).1 (100 + i)) else .null))).set 29 (.inr (1, pn P + 1, fun i => .long (z.2 3 i)))).set 30 (.inr (1, pn P + 1, fun i => .long (z.2 4 i))) := rfl
            rw [hL]
            simp only [List.getD_eq_getElem?_getD]
            rw [List.getElem?_set_ne (by omega), List.getElem?_set_ne (by omega), List.getElem?_set_ne (by omega), List.getElem?_set_ne (by omega)]
          · split
            · unfold ctC
              rw [claim_ne c (by rcases q with q | q | q | q | q <;> omega)]
            · rfl
    · subst q
      rw [xA_self]
      refine ⟨?_, ha1⟩
      rw [mm_upd_ne _ _ (Ne.symm (ha 0 l0)), mm_upd_ne _ _ (Ne.symm (ha 1 l1)), hc, ct_C (by omega)]
      unfold ctC
      rw [claim_C hz]
  · rcases hl t ht with q | q
    · rcases hl t' ht' with q' | q'
      · rw [hX t q, hX t' q'] at e
        exact R.2.1 t t' q q' e
      · subst q'
        rw [hX t q, xA_self] at e
        exact absurd e (ha t q)
    · subst q
      rcases hl t' ht' with q' | q'
      · rw [hX t' q', xA_self] at e
        exact absurd e.symm (ha t' q')
      · exact q'.symm
end MAKE2
