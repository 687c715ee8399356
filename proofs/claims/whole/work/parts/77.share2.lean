section SHR2
variable {u v d : Nat} {X : xX} {P M : pP} {z : zZ} {h : mm_H} {i j : Nat}
theorem new_ok {n : Nat} (R : Rep (u + 1) v X P M z h) (hn : n ≤ 60) : ¬ (nI n < 0 ∨ 60000000 < (nI n).toNatClampNeg ∨ h.2.1.1 < 1 ∨ h.2.1.2 < (nI n).toNatClampNeg) := by
  obtain ⟨b1, b2⟩ := R.2.2.1
  rw [nI_clamp (by omega)]
  intro e
  rcases e with e | e | e | e
  · exact nI_pos (by omega) e
  · omega
  · omega
  · omega
theorem c_share (R : Rep (u + 1 + 1) (v + 60) X P M z h) (h0 : X.2.1 = 0) {r : Nat} (hr : r < 8) (all : Int64) : Wx (d + 3) 33 0 (lv_args 0 [.ref (X.1 0), .int (nI r), .long all]) [] h (fun r0 => r0.1 = .inl none ∧ Rep u v X (p_share P r all) M z r0.2) := by
  have n60 := R.n60
  show Wx _ _ 0 [(0, .ref (X.1 0)), (1, .int (nI r)), (2, .long all)] [] h _
  refine x_run 1 (pc' := 1) (lv' := [(0, .ref (X.1 0)), (1, .int (nI r)), (2, .long all)]) (st' := [.ref (X.1 0)]) rfl ?_
  refine x_get (v := .long (pL P 7 0)) rfl rfl R.c0 rfl ?_
  refine x_run 4 (pc' := 11) (lv' := [(6, .long (pL P 7 0)), (4, .long (pL P 7 0)), (0, .ref (X.1 0)), (1, .int (nI r)), (2, .long all)]) (st' := [.ref (X.1 0)]) rfl ?_
  refine x_get (v := .int (nI (pn P))) rfl rfl R.c0 rfl ?_
  refine x_newa (t := 1) rfl rfl (new_ok R n60) ?_
  rw [nI_clamp (show pn P < 2 ^ 31 by omega)]
  obtain ⟨X1, R1, hw1, hA1, hX1, hs1⟩ : ∃ X1 : xX, Rep (u + 1) (v + 60) X1 P M (zr z (fun _ => 0) (z.2 4)) (mm_push h (pn P) (.inr (1, pn P, fun _ => .long 0))) ∧ X1.2.1 = 1 ∧ X1.1 29 = h.1 ∧ (∀ t, t ≠ 29 → X1.1 t = X.1 t) ∧ X1.2.2 = X.2.2 := ⟨xA X 29 h.1 1, R.arr1 h0, rfl, rfl, fun t ht => xA_ne X ht, rfl⟩
  rw [← hA1, show X.1 0 = X1.1 0 from (hX1 0 (by decide)).symm]
  refine gen_h (A := Rep (u + 1) (v + 60) X1 P M (zr z (fun _ => 0) (z.2 4))) R1 (fun h R => ?_)
  refine x_run 2 (pc' := 19) (lv' := [(8, .ref (X1.1 29)), (6, .long (pL P 7 0)), (4, .long (pL P 7 0)), (0, .ref (X1.1 0)), (1, .int (nI r)), (2, .long all)]) (st' := [.ref (X1.1 0)]) rfl ?_
  refine x_get (v := .int (nI (pn P))) rfl rfl R.c0 rfl ?_
  refine x_newa (t := 1) rfl rfl (new_ok R n60) ?_
  rw [nI_clamp (show pn P < 2 ^ 31 by omega)]
  obtain ⟨X2, R2, hw2, hA2, hX2, hs2⟩ : ∃ X2 : xX, Rep u (v + 60) X2 P M (zr z (fun _ => 0) (fun _ => 0)) (mm_push h (pn P) (.inr (1, pn P, fun _ => .long 0))) ∧ X2.2.1 = 2 ∧ X2.1 30 = h.1 ∧ (∀ t, t ≠ 30 → X2.1 t = X1.1 t) ∧ X2.2.2 = X1.2.2 := ⟨xA X1 30 h.1 2, R.arr2 hw1, rfl, rfl, fun t ht => xA_ne X1 ht, rfl⟩
  rw [← hA2, show X1.1 0 = X2.1 0 from (hX2 0 (by decide)).symm, show X1.1 29 = X2.1 29 from (hX2 29 (by decide)).symm]
  refine gen_h (A := Rep u (v + 60) X2 P M (zr z (fun _ => 0) (fun _ => 0))) R2 (fun h R => ?_)
  refine x_run 1 (pc' := 26) (lv' := [(9, .ref (X2.1 30)), (8, .ref (X2.1 29)), (6, .long (pL P 7 0)), (4, .long (pL P 7 0)), (0, .ref (X2.1 0)), (1, .int (nI r)), (2, .long all)]) (st' := []) rfl ?_
  refine (c_share2 R hw2 hr).mono (fun r0 e => ⟨e.1, e.2.close h0 (fun t ht => ?_) (hs2.trans hs1) rfl (fun g h3 h4 => ?_)⟩)
  · have hne : t ≠ 29 ∧ t ≠ 30 := by rcases ht with q | q | q | q | q <;> omega
    rw [hX2 t hne.2, hX1 t hne.1]
  · show (if g = 3 then _ else if g = 4 then _ else z.2 g) = z.2 g
    rw [if_neg h3, if_neg h4]
end SHR2
