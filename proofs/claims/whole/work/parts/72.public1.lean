section PUB1
variable {u v d : Nat} {X : xX} {P M : pP} {z : zZ} {h : mm_H} {i j : Nat}
theorem g_two (b : Bool) : b = false ∨ b = true := by cases b <;> simp
theorem c_owes (R : Rep (u + 1) v X P M z h) (hi : i < pn P) (n : Int64) : Wx (d + 7) 2 0 (lv_args 0 [.ref (X.1 0), .int (nI i), .long (n)]) [] h (pQ (RP u v X M z) (o_owes P i n)) := by
  show Wx _ _ 0 [(0, .ref (X.1 0)), (1, .int (nI i)), (2, .long (n))] [] h _
  refine x_run 2 (pc' := 2) (lv' := [(0, .ref (X.1 0)), (1, .int (nI i)), (2, .long (n))]) (st' := [.int (nI i), .ref (X.1 0)]) rfl ?_
  refine x_rd (v := .ref (X.1 (100 + i))) (k' := 21) (as := [.ref (X.1 0), .int (nI i)]) (rest := []) (x_isV (np := 1) rfl rfl rfl R.c0 rfl) (c_claimAt R hi) ?_
  refine x_run 3 (pc' := 9) (lv' := [(4, .ref (X.1 (100 + i))), (0, .ref (X.1 0)), (1, .int (nI i)), (2, .long (n))]) (st' := [.long (0), .long (n)]) rfl ?_
  rcases g_two (g_cents n 0) with g1 | g1
  · rw [show o_owes P i n = (5, none, P) from by simp only [o_owes, g1, not_true_eq_false, not_false_eq_true, if_true, if_false, ite_true, ite_false, reduceIte, reduceCtorEq, Classical.not_not]]
    exact x_up (k' := 20) (as := [.long (n), .long (0)]) (rest := []) (x_isS (np := 2) rfl rfl rfl rfl rfl) rfl (c_centsX R g1) (fun r e => pQ_x (by decide) (e.imp fun a q => ⟨q.1, q.2.less (Nat.le_refl _) (by omega)⟩))
  refine x_rd0 (k' := 20) (as := [.long (n), .long (0)]) (rest := []) (x_isS (np := 2) rfl rfl rfl rfl rfl) (c_cents R g1) ?_
  refine x_run 1 (pc' := 13) (lv' := [(4, .ref (X.1 (100 + i))), (0, .ref (X.1 0)), (1, .int (nI i)), (2, .long (n))]) (st' := [.ref (X.1 0)]) rfl ?_
  by_cases g2 : ¬ pI P 4 0 = 0
  · rw [show o_owes P i n = (6, none, P) from by simp only [o_owes, g1, g2, not_true_eq_false, not_false_eq_true, if_true, if_false, ite_true, ite_false, reduceIte, reduceCtorEq, Classical.not_not]]
    exact x_up (k' := 18) (as := [.ref (X.1 0)]) (rest := []) (x_isV (np := 0) rfl rfl rfl R.c0 rfl) rfl (c_liveX R g2) (fun r e => pQ_x (by decide) (e.imp fun a q => ⟨q.1, q.2.less (Nat.le_refl _) (by omega)⟩))
  refine x_rd0 (k' := 18) (as := [.ref (X.1 0)]) (rest := []) (x_isV (np := 0) rfl rfl rfl R.c0 rfl) (c_live R (Classical.not_not.mp g2)) ?_
  refine x_run 1 (pc' := 18) (lv' := [(4, .ref (X.1 (100 + i))), (0, .ref (X.1 0)), (1, .int (nI i)), (2, .long (n))]) (st' := [.ref (X.1 (100 + i))]) rfl ?_
  refine x_get (v := .int (pI P 0 i)) rfl rfl (R.cC hi) rfl ?_
  refine x_run 1 (pc' := 22) (lv' := [(4, .ref (X.1 (100 + i))), (0, .ref (X.1 0)), (1, .int (nI i)), (2, .long (n))]) (st' := [.int (2), .int (pI P 0 i)]) rfl ?_
  refine x_if (c := pI P 0 i = 2) (t := 33) rfl rfl (fun c3 => ?_) (fun c3 => ?_)
  · rw [show o_owes P i n = (6, none, P) from by simp only [o_owes, g1, g2, c3, not_true_eq_false, not_false_eq_true, if_true, if_false, ite_true, ite_false, reduceIte, reduceCtorEq, Classical.not_not]]
    exact pQ_th (x_throw (R.less (v' := v) (Nat.le_refl _) (by omega)) rfl rfl rfl rfl rfl rfl rfl rfl (by omega)) (by decide)
  · refine x_run 1 (pc' := 27) (lv' := [(4, .ref (X.1 (100 + i))), (0, .ref (X.1 0)), (1, .int (nI i)), (2, .long (n))]) (st' := [.ref (X.1 (100 + i))]) rfl ?_
    refine x_rd (v := .int (bI (p_fresh P i))) (k' := 41) (as := [.ref (X.1 (100 + i))]) (rest := []) (x_isV (np := 0) rfl rfl rfl (R.cC hi) rfl) (c_fresh R hi) ?_
    refine x_if (c := ¬ bI (p_fresh P i) = 0) (t := 43) rfl rfl (fun c4 => ?_) (fun c4 => ?_)
    · replace c4 := bI_n0 c4
      refine x_run 2 (pc' := 46) (lv' := [(4, .ref (X.1 (100 + i))), (0, .ref (X.1 0)), (1, .int (nI i)), (2, .long (n))]) (st' := [.ref (X.1 (100 + i)), .ref (X.1 (100 + i))]) rfl ?_
      refine x_get (v := .long (pL P 1 i)) rfl rfl (R.cC hi) rfl ?_
      refine x_run 2 (pc' := 51) (lv' := [(4, .ref (X.1 (100 + i))), (0, .ref (X.1 0)), (1, .int (nI i)), (2, .long (n))]) (st' := [.long ((pL P 1 i) + n), .ref (X.1 (100 + i))]) rfl ?_
      refine x_put rfl rfl (R.cC hi) rfl ?_
      refine gen_h (A := Rep (u + 1) v X (sL P 1 i ((pL P 1 i) + n)) M z) (R.uDebt hi _) (fun h R => ?_)
      refine x_run 1 (pc' := 56) (lv' := [(4, .ref (X.1 (100 + i))), (0, .ref (X.1 0)), (1, .int (nI i)), (2, .long (n))]) (st' := [.ref (X.1 (100 + i))]) rfl ?_
      refine x_get (v := .long (pL (sL P 1 i ((pL P 1 i) + n)) 1 i)) rfl rfl (R.cC hi) rfl ?_
      rw [show o_owes P i n = (0, some (.long (pL (sL P 1 i ((pL P 1 i) + n)) 1 i)), sL P 1 i ((pL P 1 i) + n)) from by simp only [o_owes, g1, g2, c3, c4, not_true_eq_false, not_false_eq_true, if_true, if_false, ite_true, ite_false, reduceIte, reduceCtorEq, Classical.not_not]]
      exact x_ret (v := some (.long (pL (sL P 1 i ((pL P 1 i) + n)) 1 i))) rfl rfl rfl (pQ_0 (R.less (by omega) (by omega)))
    · replace c4 := bI_0.mp (Classical.not_not.mp c4)
      rw [show o_owes P i n = (6, none, P) from by simp only [o_owes, g1, g2, c3, c4, not_true_eq_false, not_false_eq_true, if_true, if_false, ite_true, ite_false, reduceIte, reduceCtorEq, Classical.not_not]]
      exact pQ_th (x_throw (R.less (v' := v) (Nat.le_refl _) (by omega)) rfl rfl rfl rfl rfl rfl rfl rfl (by omega)) (by decide)
theorem c_contest (R : Rep (u + 1) v X P M z h) (hi : i < pn P) : Wx (d + 7) 6 0 (lv_args 0 [.ref (X.1 0), .int (nI i)]) [] h (pQ (RP u v X M z) (o_contest P i)) := by
  show Wx _ _ 0 [(0, .ref (X.1 0)), (1, .int (nI i))] [] h _
  refine x_run 2 (pc' := 2) (lv' := [(0, .ref (X.1 0)), (1, .int (nI i))]) (st' := [.int (nI i), .ref (X.1 0)]) rfl ?_
  refine x_rd (v := .ref (X.1 (100 + i))) (k' := 21) (as := [.ref (X.1 0), .int (nI i)]) (rest := []) (x_isV (np := 1) rfl rfl rfl R.c0 rfl) (c_claimAt R hi) ?_
  refine x_run 2 (pc' := 7) (lv' := [(2, .ref (X.1 (100 + i))), (0, .ref (X.1 0)), (1, .int (nI i))]) (st' := [.ref (X.1 0)]) rfl ?_
  by_cases g1 : ¬ pI P 4 0 = 0
  · rw [show o_contest P i = (6, none, P) from by simp only [o_contest, g1, not_true_eq_false, not_false_eq_true, if_true, if_false, ite_true, ite_false, reduceIte, reduceCtorEq, Classical.not_not]]
    exact x_up (k' := 18) (as := [.ref (X.1 0)]) (rest := []) (x_isV (np := 0) rfl rfl rfl R.c0 rfl) rfl (c_liveX R g1) (fun r e => pQ_x (by decide) (e.imp fun a q => ⟨q.1, q.2.less (Nat.le_refl _) (by omega)⟩))
  refine x_rd0 (k' := 18) (as := [.ref (X.1 0)]) (rest := []) (x_isV (np := 0) rfl rfl rfl R.c0 rfl) (c_live R (Classical.not_not.mp g1)) ?_
  refine x_run 1 (pc' := 11) (lv' := [(2, .ref (X.1 (100 + i))), (0, .ref (X.1 0)), (1, .int (nI i))]) (st' := [.ref (X.1 (100 + i))]) rfl ?_
  refine x_get (v := .int (pI P 0 i)) rfl rfl (R.cC hi) rfl ?_
  refine x_if (c := ¬ pI P 0 i = 0) (t := 24) rfl rfl (fun c2 => ?_) (fun c2 => ?_)
  · rw [show o_contest P i = (6, none, P) from by simp only [o_contest, g1, c2, not_true_eq_false, not_false_eq_true, if_true, if_false, ite_true, ite_false, reduceIte, reduceCtorEq, Classical.not_not]]
    exact pQ_th (x_throw (R.less (v' := v) (Nat.le_refl _) (by omega)) rfl rfl rfl rfl rfl rfl rfl rfl (by omega)) (by decide)
  · refine x_run 1 (pc' := 18) (lv' := [(2, .ref (X.1 (100 + i))), (0, .ref (X.1 0)), (1, .int (nI i))]) (st' := [.ref (X.1 (100 + i))]) rfl ?_
    refine x_rd (v := .int (bI (p_fresh P i))) (k' := 41) (as := [.ref (X.1 (100 + i))]) (rest := []) (x_isV (np := 0) rfl rfl rfl (R.cC hi) rfl) (c_fresh R hi) ?_
    refine x_if (c := ¬ bI (p_fresh P i) = 0) (t := 34) rfl rfl (fun c3 => ?_) (fun c3 => ?_)
    · replace c3 := bI_n0 c3
      refine x_run 2 (pc' := 36) (lv' := [(2, .ref (X.1 (100 + i))), (0, .ref (X.1 0)), (1, .int (nI i))]) (st' := [.int (1), .ref (X.1 (100 + i))]) rfl ?_
      refine x_put rfl rfl (R.cC hi) rfl ?_
      refine gen_h (A := Rep (u + 1) v X (sI P 0 i (1)) M z) (R.uState hi _) (fun h R => ?_)
      rw [show o_contest P i = (0, none, sI P 0 i (1)) from by simp only [o_contest, g1, c2, c3, not_true_eq_false, not_false_eq_true, if_true, if_false, ite_true, ite_false, reduceIte, reduceCtorEq, Classical.not_not]]
      exact x_ret (v := none) rfl rfl rfl (pQ_0 (R.less (by omega) (by omega)))
    · replace c3 := bI_0.mp (Classical.not_not.mp c3)
      rw [show o_contest P i = (6, none, P) from by simp only [o_contest, g1, c2, c3, not_true_eq_false, not_false_eq_true, if_true, if_false, ite_true, ite_false, reduceIte, reduceCtorEq, Classical.not_not]]
      exact pQ_th (x_throw (R.less (v' := v) (Nat.le_refl _) (by omega)) rfl rfl rfl rfl rfl rfl rfl rfl (by omega)) (by decide)
theorem c_cost (R : Rep (u + 1) (v + 1) X P M z h) (n : Int64) : Wx (d + 7) 8 0 (lv_args 0 [.ref (X.1 0), .long (n)]) [] h (pQ (RP u v X M z) (o_cost P n)) := by
  show Wx _ _ 0 [(0, .ref (X.1 0)), (1, .long (n))] [] h _
  refine x_run 2 (pc' := 2) (lv' := [(0, .ref (X.1 0)), (1, .long (n))]) (st' := [.long (0), .long (n)]) rfl ?_
  rcases g_two (g_cents n 0) with g1 | g1
  · rw [show o_cost P n = (5, none, P) from by simp only [o_cost, g1, not_true_eq_false, not_false_eq_true, if_true, if_false, ite_true, ite_false, reduceIte, reduceCtorEq, Classical.not_not]]
    exact x_up (k' := 20) (as := [.long (n), .long (0)]) (rest := []) (x_isS (np := 2) rfl rfl rfl rfl rfl) rfl (c_centsX R g1) (fun r e => pQ_x (by decide) (e.imp fun a q => ⟨q.1, q.2.less (Nat.le_refl _) (by omega)⟩))
  refine x_rd0 (k' := 20) (as := [.long (n), .long (0)]) (rest := []) (x_isS (np := 2) rfl rfl rfl rfl rfl) (c_cents R g1) ?_
  refine x_run 1 (pc' := 6) (lv' := [(0, .ref (X.1 0)), (1, .long (n))]) (st' := [.ref (X.1 0)]) rfl ?_
  by_cases g2 : ¬ pI P 4 0 = 0
  · rw [show o_cost P n = (6, none, P) from by simp only [o_cost, g1, g2, not_true_eq_false, not_false_eq_true, if_true, if_false, ite_true, ite_false, reduceIte, reduceCtorEq, Classical.not_not]]
    exact x_up (k' := 18) (as := [.ref (X.1 0)]) (rest := []) (x_isV (np := 0) rfl rfl rfl R.c0 rfl) rfl (c_liveX R g2) (fun r e => pQ_x (by decide) (e.imp fun a q => ⟨q.1, q.2.less (Nat.le_refl _) (by omega)⟩))
  refine x_rd0 (k' := 18) (as := [.ref (X.1 0)]) (rest := []) (x_isV (np := 0) rfl rfl rfl R.c0 rfl) (c_live R (Classical.not_not.mp g2)) ?_
  refine x_run 1 (pc' := 10) (lv' := [(0, .ref (X.1 0)), (1, .long (n))]) (st' := [.ref (X.1 0)]) rfl ?_
  refine x_get (v := .long (pL P 7 0)) rfl rfl R.c0 rfl ?_
  refine x_run 1 (pc' := 14) (lv' := [(0, .ref (X.1 0)), (1, .long (n))]) (st' := [.long (n), .long (pL P 7 0)]) rfl ?_
  refine x_lge (t := 28) rfl rfl rfl (fun c3 => ?_) (fun c3 => ?_)
  · refine x_run 2 (pc' := 30) (lv' := [(0, .ref (X.1 0)), (1, .long (n))]) (st' := [.ref (X.1 0), .ref (X.1 0)]) rfl ?_
    refine x_get (v := .long (pL P 7 0)) rfl rfl R.c0 rfl ?_
    refine x_run 2 (pc' := 35) (lv' := [(0, .ref (X.1 0)), (1, .long (n))]) (st' := [.long ((pL P 7 0) - n), .ref (X.1 0)]) rfl ?_
    refine x_put rfl rfl R.c0 rfl ?_
    refine gen_h (A := Rep (u + 1) (v + 1) X (sL P 7 0 ((pL P 7 0) - n)) M z) (R.uCash _) (fun h R => ?_)
    refine x_run 2 (pc' := 40) (lv' := [(0, .ref (X.1 0)), (1, .long (n))]) (st' := [.ref (X.1 0), .ref (X.1 0)]) rfl ?_
    refine x_get (v := .long (pL P 7 2)) rfl rfl R.c0 rfl ?_
    refine x_run 2 (pc' := 45) (lv' := [(0, .ref (X.1 0)), (1, .long (n))]) (st' := [.long ((pL P 7 2) + n), .ref (X.1 0)]) rfl ?_
    refine x_put rfl rfl R.c0 rfl ?_
    refine gen_h (A := Rep (u + 1) (v + 1) X (sL (sL P 7 0 ((pL P 7 0) - n)) 7 2 ((pL P 7 2) + n)) M z) (R.uSpent _) (fun h R => ?_)
    refine x_run 1 (pc' := 49) (lv' := [(0, .ref (X.1 0)), (1, .long (n))]) (st' := [.ref (X.1 0)]) rfl ?_
    refine x_get (v := .ref (X.1 4)) rfl rfl R.c0 rfl ?_
    refine x_run 3 (pc' := 55) (lv' := [(0, .ref (X.1 0)), (1, .long (n))]) (st' := [.long (n), .int (-1), .int (3), .ref (X.1 4)]) rfl ?_
    refine x_wr0 (A := Rep (u + 1) v X (p_note (sL (sL P 7 0 ((pL P 7 0) - n)) 7 2 ((pL P 7 2) + n)) 3 (-1) n) M z) (k' := 51) (as := [.ref (X.1 4), .int (3), .int (-1), .long (n)]) (rest := []) (x_isV (np := 3) rfl rfl rfl R.c4 rfl) (c_note R _ _ _) (fun h R => ?_)
    refine x_run 1 (pc' := 59) (lv' := [(0, .ref (X.1 0)), (1, .long (n))]) (st' := [.ref (X.1 0)]) rfl ?_
    refine x_get (v := .long ((pL P 7 0) - n)) rfl rfl R.c0 rfl ?_
    rw [show o_cost P n = (0, some (.long ((pL P 7 0) - n)), p_note (sL (sL P 7 0 ((pL P 7 0) - n)) 7 2 ((pL P 7 2) + n)) 3 (-1) n) from by simp only [o_cost, g1, g2, c3, not_true_eq_false, not_false_eq_true, if_true, if_false, ite_true, ite_false, reduceIte, reduceCtorEq, Classical.not_not]]
    exact x_ret (v := some (.long ((pL P 7 0) - n))) rfl rfl rfl (pQ_0 (R.less (by omega) (by omega)))
  · rw [show o_cost P n = (6, none, P) from by simp only [o_cost, g1, g2, c3, not_true_eq_false, not_false_eq_true, if_true, if_false, ite_true, ite_false, reduceIte, reduceCtorEq, Classical.not_not]]
    exact pQ_th (x_throw (R.less (v' := v) (Nat.le_refl _) (by omega)) rfl rfl rfl rfl rfl rfl rfl rfl (by omega)) (by decide)
theorem c_settle (R : Rep (u + 1) (v + 1 + 1) X P M z h) (hi : i < pn P) (n : Int64) : Wx (d + 7) 7 0 (lv_args 0 [.ref (X.1 0), .int (nI i), .long (n)]) [] h (pQ (RP u v X M z) (o_settle p_open P i n)) := by
  show Wx _ _ 0 [(0, .ref (X.1 0)), (1, .int (nI i)), (2, .long (n))] [] h _
  refine x_run 2 (pc' := 2) (lv' := [(0, .ref (X.1 0)), (1, .int (nI i)), (2, .long (n))]) (st' := [.int (nI i), .ref (X.1 0)]) rfl ?_
  refine x_rd (v := .ref (X.1 (100 + i))) (k' := 21) (as := [.ref (X.1 0), .int (nI i)]) (rest := []) (x_isV (np := 1) rfl rfl rfl R.c0 rfl) (c_claimAt R hi) ?_
  refine x_run 3 (pc' := 9) (lv' := [(4, .ref (X.1 (100 + i))), (0, .ref (X.1 0)), (1, .int (nI i)), (2, .long (n))]) (st' := [.long (0), .long (n)]) rfl ?_
  refine x_llt (t := 23) rfl rfl rfl (fun c1 => ?_) (fun c1 => ?_)
  · rw [show o_settle p_open P i n = (5, none, P) from by simp only [o_settle, p_set, c1, not_true_eq_false, not_false_eq_true, if_true, if_false, ite_true, ite_false, reduceIte, reduceCtorEq, Classical.not_not]]
    exact pQ_th (x_throw (R.less (v' := v) (Nat.le_refl _) (by omega)) rfl rfl rfl rfl rfl rfl rfl rfl (by omega)) (by decide)
  · refine x_run 2 (pc' := 16) (lv' := [(4, .ref (X.1 (100 + i))), (0, .ref (X.1 0)), (1, .int (nI i)), (2, .long (n))]) (st' := [.ref (X.1 (100 + i)), .long (n)]) rfl ?_
    refine x_get (v := .long (pL P 0 i)) rfl rfl (R.cC hi) rfl ?_
    refine x_lle (t := 33) rfl rfl rfl (fun c2 => ?_) (fun c2 => ?_)
    · refine x_run 1 (pc' := 34) (lv' := [(4, .ref (X.1 (100 + i))), (0, .ref (X.1 0)), (1, .int (nI i)), (2, .long (n))]) (st' := [.ref (X.1 0)]) rfl ?_
      by_cases g3 : ¬ pI P 4 0 = 0
      · rw [show o_settle p_open P i n = (6, none, P) from by simp only [o_settle, p_set, c1, c2, g3, not_true_eq_false, not_false_eq_true, if_true, if_false, ite_true, ite_false, reduceIte, reduceCtorEq, Classical.not_not]]
        exact x_up (k' := 18) (as := [.ref (X.1 0)]) (rest := []) (x_isV (np := 0) rfl rfl rfl R.c0 rfl) rfl (c_liveX R g3) (fun r e => pQ_x (by decide) (e.imp fun a q => ⟨q.1, q.2.less (Nat.le_refl _) (by omega)⟩))
      refine x_rd0 (k' := 18) (as := [.ref (X.1 0)]) (rest := []) (x_isV (np := 0) rfl rfl rfl R.c0 rfl) (c_live R (Classical.not_not.mp g3)) ?_
      refine x_run 1 (pc' := 39) (lv' := [(4, .ref (X.1 (100 + i))), (0, .ref (X.1 0)), (1, .int (nI i)), (2, .long (n))]) (st' := [.ref (X.1 (100 + i))]) rfl ?_
      refine x_get (v := .int (pI P 0 i)) rfl rfl (R.cC hi) rfl ?_
      refine x_run 1 (pc' := 43) (lv' := [(4, .ref (X.1 (100 + i))), (0, .ref (X.1 0)), (1, .int (nI i)), (2, .long (n))]) (st' := [.int (1), .int (pI P 0 i)]) rfl ?_
      refine x_if (c := pI P 0 i = 1) (t := 56) rfl rfl (fun c4 => ?_) (fun c4 => ?_)
      · refine x_run 2 (pc' := 58) (lv' := [(4, .ref (X.1 (100 + i))), (0, .ref (X.1 0)), (1, .int (nI i)), (2, .long (n))]) (st' := [.long (0), .long (n)]) rfl ?_
        refine x_lne (t := 71) rfl rfl rfl (fun c5 => ?_) (fun c5 => ?_)
        · refine x_run 2 (pc' := 74) (lv' := [(4, .ref (X.1 (100 + i))), (0, .ref (X.1 0)), (1, .int (nI i)), (2, .long (n))]) (st' := [.int (0), .ref (X.1 (100 + i))]) rfl ?_
          refine x_put rfl rfl (R.cC hi) rfl ?_
          refine gen_h (A := Rep (u + 1) (v + 1 + 1) X (sI P 0 i (0)) M z) (R.uState hi _) (fun h R => ?_)
          refine x_run 2 (pc' := 80) (lv' := [(4, .ref (X.1 (100 + i))), (0, .ref (X.1 0)), (1, .int (nI i)), (2, .long (n))]) (st' := [.long (n), .ref (X.1 (100 + i))]) rfl ?_
          refine x_put rfl rfl (R.cC hi) rfl ?_
          refine gen_h (A := Rep (u + 1) (v + 1 + 1) X (sL (sI P 0 i (0)) 0 i (n)) M z) (R.uAmount hi _) (fun h R => ?_)
          refine x_run 1 (pc' := 85) (lv' := [(4, .ref (X.1 (100 + i))), (0, .ref (X.1 0)), (1, .int (nI i)), (2, .long (n))]) (st' := [.ref (X.1 (100 + i))]) rfl ?_
          refine x_rd (v := .int (bI (p_open (sL (sI P 0 i (0)) 0 i (n)) i))) (k' := 40) (as := [.ref (X.1 (100 + i))]) (rest := []) (x_isV (np := 0) rfl rfl rfl (R.cC hi) rfl) (c_open R hi) ?_
          refine x_if (c := bI (p_open (sL (sI P 0 i (0)) 0 i (n)) i) = 0) (t := 115) rfl rfl (fun c6 => ?_) (fun c6 => ?_)
          · replace c6 := bI_0.mp c6
            refine x_run 2 (pc' := 118) (lv' := [(4, .ref (X.1 (100 + i))), (0, .ref (X.1 0)), (1, .int (nI i)), (2, .long (n))]) (st' := [.ref (X.1 (100 + i)), .ref (X.1 0)]) rfl ?_
            refine x_wr (v := .long (p_resV (p_open (sL (sI P 0 i (0)) 0 i (n)) i) (sL (sI P 0 i (0)) 0 i (n)) i)) (A := Rep (u + 1) v X (p_resolve (p_open (sL (sI P 0 i (0)) 0 i (n)) i) (sL (sI P 0 i (0)) 0 i (n)) i) M z) (k' := 29) (as := [.ref (X.1 0), .ref (X.1 (100 + i))]) (rest := []) (x_isV (np := 1) rfl rfl rfl R.c0 rfl) (c_resolve R hi) (fun h R => ?_)
            have e1 : p_set P i n = sL (sI P 0 i (0)) 0 i (n) := if_neg c5
            rw [show o_settle p_open P i n = (0, some (.long (p_resV (p_open (sL (sI P 0 i (0)) 0 i (n)) i) (sL (sI P 0 i (0)) 0 i (n)) i)), p_resolve (p_open (sL (sI P 0 i (0)) 0 i (n)) i) (sL (sI P 0 i (0)) 0 i (n)) i) from by rw [o_settle, if_neg c1, if_neg (not_not_intro c2), if_neg g3, if_neg (not_not_intro c4), e1]; (rw [if_neg (fun e => absurd (c6.symm.trans e) (by decide))]) <;> rfl]
            exact x_ret (v := some (.long (p_resV (p_open (sL (sI P 0 i (0)) 0 i (n)) i) (sL (sI P 0 i (0)) 0 i (n)) i))) rfl rfl rfl (pQ_0 (R.less (by omega) (by omega)))
          · replace c6 := bI_n0 c6
            refine x_run 4 (pc' := 97) (lv' := [(4, .ref (X.1 (100 + i))), (0, .ref (X.1 0)), (1, .int (nI i)), (2, .long (n))]) (st' := [.ref (X.1 (100 + i)), .long (0), .ref (X.1 (100 + i)), .ref (X.1 0)]) rfl ?_
            refine x_get (v := .long (pL P 4 i)) rfl rfl (R.cC hi) rfl ?_
            refine x_run 2 (pc' := 103) (lv' := [(4, .ref (X.1 (100 + i))), (0, .ref (X.1 0)), (1, .int (nI i)), (2, .long (n))]) (st' := [.ref (X.1 (100 + i)), .ref (X.1 0), .long (pL P 4 i), .long (0), .ref (X.1 (100 + i)), .ref (X.1 0)]) rfl ?_
            refine x_rd (v := .long (p_dueOf (sL (sI P 0 i (0)) 0 i (n)) i)) (k' := 23) (as := [.ref (X.1 0), .ref (X.1 (100 + i))]) (rest := [.long (pL P 4 i), .long (0), .ref (X.1 (100 + i)), .ref (X.1 0)]) (x_isV (np := 1) rfl rfl rfl R.c0 rfl) (c_dueOf R hi) ?_
            refine x_run 1 (pc' := 107) (lv' := [(4, .ref (X.1 (100 + i))), (0, .ref (X.1 0)), (1, .int (nI i)), (2, .long (n))]) (st' := [.long ((pL P 4 i) - (p_dueOf (sL (sI P 0 i (0)) 0 i (n)) i)), .long (0), .ref (X.1 (100 + i)), .ref (X.1 0)]) rfl ?_
            refine x_max rfl rfl rfl ?_
            refine x_wr0 (A := Rep (u + 1) (v + 1) X (p_release (sL (sI P 0 i (0)) 0 i (n)) i (if (pL P 4 i) - (p_dueOf (sL (sI P 0 i (0)) 0 i (n)) i) < 0 then 0 else (pL P 4 i) - (p_dueOf (sL (sI P 0 i (0)) 0 i (n)) i))) M z) (k' := 30) (as := [.ref (X.1 0), .ref (X.1 (100 + i)), .long (if (pL P 4 i) - (p_dueOf (sL (sI P 0 i (0)) 0 i (n)) i) < 0 then 0 else (pL P 4 i) - (p_dueOf (sL (sI P 0 i (0)) 0 i (n)) i))]) (rest := []) (x_isV (np := 2) rfl rfl rfl R.c0 rfl) (c_release R hi _) (fun h R => ?_)
            refine x_run 1 (pc' := 114) (lv' := [(4, .ref (X.1 (100 + i))), (0, .ref (X.1 0)), (1, .int (nI i)), (2, .long (n))]) (st' := [.long (0)]) rfl ?_
            have e1 : p_set P i n = sL (sI P 0 i (0)) 0 i (n) := if_neg c5
            rw [show o_settle p_open P i n = (0, some (.long (0)), p_release (sL (sI P 0 i (0)) 0 i (n)) i (if (pL P 4 i) - (p_dueOf (sL (sI P 0 i (0)) 0 i (n)) i) < 0 then 0 else (pL P 4 i) - (p_dueOf (sL (sI P 0 i (0)) 0 i (n)) i))) from by rw [o_settle, if_neg c1, if_neg (not_not_intro c2), if_neg g3, if_neg (not_not_intro c4), e1]; (rw [if_pos c6]) <;> rfl]
            exact x_ret (v := some (.long (0))) rfl rfl rfl (pQ_0 (R.less (by omega) (by omega)))
        · refine x_run 2 (pc' := 65) (lv' := [(4, .ref (X.1 (100 + i))), (0, .ref (X.1 0)), (1, .int (nI i)), (2, .long (n))]) (st' := [.int (2), .ref (X.1 (100 + i))]) rfl ?_
          refine x_put rfl rfl (R.cC hi) rfl ?_
          refine gen_h (A := Rep (u + 1) (v + 1 + 1) X (sI P 0 i (2)) M z) (R.uState hi _) (fun h R => ?_)
          refine x_run 2 (pc' := 85) (lv' := [(4, .ref (X.1 (100 + i))), (0, .ref (X.1 0)), (1, .int (nI i)), (2, .long (n))]) (st' := [.ref (X.1 (100 + i))]) rfl ?_
          refine x_rd (v := .int (bI (p_open (sI P 0 i (2)) i))) (k' := 40) (as := [.ref (X.1 (100 + i))]) (rest := []) (x_isV (np := 0) rfl rfl rfl (R.cC hi) rfl) (c_open R hi) ?_
          refine x_if (c := bI (p_open (sI P 0 i (2)) i) = 0) (t := 115) rfl rfl (fun c7 => ?_) (fun c7 => ?_)
          · replace c7 := bI_0.mp c7
            refine x_run 2 (pc' := 118) (lv' := [(4, .ref (X.1 (100 + i))), (0, .ref (X.1 0)), (1, .int (nI i)), (2, .long (n))]) (st' := [.ref (X.1 (100 + i)), .ref (X.1 0)]) rfl ?_
            refine x_wr (v := .long (p_resV (p_open (sI P 0 i (2)) i) (sI P 0 i (2)) i)) (A := Rep (u + 1) v X (p_resolve (p_open (sI P 0 i (2)) i) (sI P 0 i (2)) i) M z) (k' := 29) (as := [.ref (X.1 0), .ref (X.1 (100 + i))]) (rest := []) (x_isV (np := 1) rfl rfl rfl R.c0 rfl) (c_resolve R hi) (fun h R => ?_)
            have e1 : p_set P i n = sI P 0 i (2) := if_pos c5
            rw [show o_settle p_open P i n = (0, some (.long (p_resV (p_open (sI P 0 i (2)) i) (sI P 0 i (2)) i)), p_resolve (p_open (sI P 0 i (2)) i) (sI P 0 i (2)) i) from by rw [o_settle, if_neg c1, if_neg (not_not_intro c2), if_neg g3, if_neg (not_not_intro c4), e1]; (rw [if_neg (fun e => absurd (c7.symm.trans e) (by decide))]) <;> rfl]
            exact x_ret (v := some (.long (p_resV (p_open (sI P 0 i (2)) i) (sI P 0 i (2)) i))) rfl rfl rfl (pQ_0 (R.less (by omega) (by omega)))
          · replace c7 := bI_n0 c7
            refine x_run 4 (pc' := 97) (lv' := [(4, .ref (X.1 (100 + i))), (0, .ref (X.1 0)), (1, .int (nI i)), (2, .long (n))]) (st' := [.ref (X.1 (100 + i)), .long (0), .ref (X.1 (100 + i)), .ref (X.1 0)]) rfl ?_
            refine x_get (v := .long (pL P 4 i)) rfl rfl (R.cC hi) rfl ?_
            refine x_run 2 (pc' := 103) (lv' := [(4, .ref (X.1 (100 + i))), (0, .ref (X.1 0)), (1, .int (nI i)), (2, .long (n))]) (st' := [.ref (X.1 (100 + i)), .ref (X.1 0), .long (pL P 4 i), .long (0), .ref (X.1 (100 + i)), .ref (X.1 0)]) rfl ?_
            refine x_rd (v := .long (p_dueOf (sI P 0 i (2)) i)) (k' := 23) (as := [.ref (X.1 0), .ref (X.1 (100 + i))]) (rest := [.long (pL P 4 i), .long (0), .ref (X.1 (100 + i)), .ref (X.1 0)]) (x_isV (np := 1) rfl rfl rfl R.c0 rfl) (c_dueOf R hi) ?_
            refine x_run 1 (pc' := 107) (lv' := [(4, .ref (X.1 (100 + i))), (0, .ref (X.1 0)), (1, .int (nI i)), (2, .long (n))]) (st' := [.long ((pL P 4 i) - (p_dueOf (sI P 0 i (2)) i)), .long (0), .ref (X.1 (100 + i)), .ref (X.1 0)]) rfl ?_
            refine x_max rfl rfl rfl ?_
            refine x_wr0 (A := Rep (u + 1) (v + 1) X (p_release (sI P 0 i (2)) i (if (pL P 4 i) - (p_dueOf (sI P 0 i (2)) i) < 0 then 0 else (pL P 4 i) - (p_dueOf (sI P 0 i (2)) i))) M z) (k' := 30) (as := [.ref (X.1 0), .ref (X.1 (100 + i)), .long (if (pL P 4 i) - (p_dueOf (sI P 0 i (2)) i) < 0 then 0 else (pL P 4 i) - (p_dueOf (sI P 0 i (2)) i))]) (rest := []) (x_isV (np := 2) rfl rfl rfl R.c0 rfl) (c_release R hi _) (fun h R => ?_)
            refine x_run 1 (pc' := 114) (lv' := [(4, .ref (X.1 (100 + i))), (0, .ref (X.1 0)), (1, .int (nI i)), (2, .long (n))]) (st' := [.long (0)]) rfl ?_
            have e1 : p_set P i n = sI P 0 i (2) := if_pos c5
            rw [show o_settle p_open P i n = (0, some (.long (0)), p_release (sI P 0 i (2)) i (if (pL P 4 i) - (p_dueOf (sI P 0 i (2)) i) < 0 then 0 else (pL P 4 i) - (p_dueOf (sI P 0 i (2)) i))) from by rw [o_settle, if_neg c1, if_neg (not_not_intro c2), if_neg g3, if_neg (not_not_intro c4), e1]; (rw [if_pos c7]) <;> rfl]
            exact x_ret (v := some (.long (0))) rfl rfl rfl (pQ_0 (R.less (by omega) (by omega)))
      · rw [show o_settle p_open P i n = (6, none, P) from by simp only [o_settle, p_set, c1, c2, g3, c4, not_true_eq_false, not_false_eq_true, if_true, if_false, ite_true, ite_false, reduceIte, reduceCtorEq, Classical.not_not]]
        exact pQ_th (x_throw (R.less (v' := v) (Nat.le_refl _) (by omega)) rfl rfl rfl rfl rfl rfl rfl rfl (by omega)) (by decide)
    · rw [show o_settle p_open P i n = (5, none, P) from by simp only [o_settle, p_set, c1, c2, not_true_eq_false, not_false_eq_true, if_true, if_false, ite_true, ite_false, reduceIte, reduceCtorEq, Classical.not_not]]
      exact pQ_th (x_throw (R.less (v' := v) (Nat.le_refl _) (by omega)) rfl rfl rfl rfl rfl rfl rfl rfl (by omega)) (by decide)
theorem c_div  {r p : Nat} (R : Rep (u + 1) (v + 60 * (r + 1)) X P M z h) (hr : r < 8) (h1 : 1 ≤ p) (h2 : p ≤ 10000) : Wx (d + 7) 9 0 (lv_args 0 [.ref (X.1 0), .int (nI r), .int (nI p)]) [] h (pQ (RP u v X M z) (o_div p_open P r p)) := by
  have p4 := R.wP.pc r
  show Wx _ _ 0 [(0, .ref (X.1 0)), (1, .int (nI r)), (2, .int (nI p))] [] h _
  refine x_run 1 (pc' := 1) (lv' := [(0, .ref (X.1 0)), (1, .int (nI r)), (2, .int (nI p))]) (st' := [.int (nI r)]) rfl ?_
  refine x_rd0 (k' := 19) (as := [.int (nI r)]) (rest := []) (x_isS (np := 1) rfl rfl rfl rfl rfl) (c_rank R hr) ?_
  refine x_run 2 (pc' := 6) (lv' := [(0, .ref (X.1 0)), (1, .int (nI r)), (2, .int (nI p))]) (st' := [.int (1), .int (nI p)]) rfl ?_
  refine x_if (c := nI p < nI 1) (t := 16) rfl rfl (fun c1 => ?_) (fun c1 => ?_)
  · replace c1 := (nI_ltI (by omega) (by omega)).mp c1
    omega
  · replace c1 := mt (nI_ltI (by omega) (by omega)).mpr c1
    refine x_run 2 (pc' := 13) (lv' := [(0, .ref (X.1 0)), (1, .int (nI r)), (2, .int (nI p))]) (st' := [.int (10000), .int (nI p)]) rfl ?_
    refine x_if (c := nI p ≤ nI 10000) (t := 26) rfl rfl (fun c2 => ?_) (fun c2 => ?_)
    · replace c2 := (nI_leI (by omega) (by omega)).mp c2
      refine x_run 1 (pc' := 27) (lv' := [(0, .ref (X.1 0)), (1, .int (nI r)), (2, .int (nI p))]) (st' := [.ref (X.1 0)]) rfl ?_
      by_cases g3 : ¬ pI P 4 0 = 0
      · rw [show o_div p_open P r p = (6, none, P) from by simp only [o_div, c1, c2, g3, not_true_eq_false, not_false_eq_true, if_true, if_false, ite_true, ite_false, reduceIte, reduceCtorEq, Classical.not_not]]
        exact x_up (k' := 18) (as := [.ref (X.1 0)]) (rest := []) (x_isV (np := 0) rfl rfl rfl R.c0 rfl) rfl (c_liveX R g3) (fun r e => pQ_x (by decide) (e.imp fun a q => ⟨q.1, q.2.less (Nat.le_refl _) (by omega)⟩))
      refine x_rd0 (k' := 18) (as := [.ref (X.1 0)]) (rest := []) (x_isV (np := 0) rfl rfl rfl R.c0 rfl) (c_live R (Classical.not_not.mp g3)) ?_
      refine x_run 2 (pc' := 32) (lv' := [(0, .ref (X.1 0)), (1, .int (nI r)), (2, .int (nI p))]) (st' := [.ref (X.1 0), .int (nI p)]) rfl ?_
      refine x_get (v := .ref (X.1 3)) rfl rfl R.c0 rfl ?_
      refine x_run 1 (pc' := 36) (lv' := [(0, .ref (X.1 0)), (1, .int (nI r)), (2, .int (nI p))]) (st' := [.int (nI r), .ref (X.1 3), .int (nI p)]) rfl ?_
      refine x_iald (j := r) rfl R.c3 (mm_idx_nI (by omega) (by omega)) ?_
      refine x_if (c := nI p ≤ nI (pN P 3 r)) (t := 48) rfl rfl (fun c4 => ?_) (fun c4 => ?_)
      · replace c4 := (nI_leI (by omega) (by omega)).mp c4
        rw [show o_div p_open P r p = (6, none, P) from by simp only [o_div, c1, c2, g3, c4, not_true_eq_false, not_false_eq_true, if_true, if_false, ite_true, ite_false, reduceIte, reduceCtorEq, Classical.not_not]]
        exact pQ_th (x_throw (R.less (v' := v) (Nat.le_refl _) (by omega)) rfl rfl rfl rfl rfl rfl rfl rfl (by omega)) (by decide)
      · replace c4 := mt (nI_leI (by omega) (by omega)).mpr c4
        refine x_run 2 (pc' := 42) (lv' := [(0, .ref (X.1 0)), (1, .int (nI r)), (2, .int (nI p))]) (st' := [.int (nI r), .ref (X.1 0)]) rfl ?_
        refine x_rd (v := .int (bI (p_blk P r (pn P) 0))) (k' := 24) (as := [.ref (X.1 0), .int (nI r)]) (rest := []) (x_isV (np := 1) rfl rfl rfl R.c0 rfl) (c_blk R hr) ?_
        refine x_if (c := bI (p_blk P r (pn P) 0) = 0) (t := 58) rfl rfl (fun c5 => ?_) (fun c5 => ?_)
        · replace c5 := bI_0.mp c5
          refine x_run 3 (pc' := 61) (lv' := [(0, .ref (X.1 0)), (1, .int (nI r)), (2, .int (nI p))]) (st' := [.int (nI p), .int (nI r), .ref (X.1 0)]) rfl ?_
          refine x_rd (v := .long (p_need P r (nI p) (pn P) 0 0)) (k' := 25) (as := [.ref (X.1 0), .int (nI r), .int (nI p)]) (rest := []) (x_isV (np := 2) rfl rfl rfl R.c0 rfl) (c_need R hr _) ?_
          refine x_run 1 (pc' := 65) (lv' := [(0, .ref (X.1 0)), (1, .int (nI r)), (2, .int (nI p))]) (st' := [.ref (X.1 0), .long (p_need P r (nI p) (pn P) 0 0)]) rfl ?_
          refine x_get (v := .long (pL P 7 0)) rfl rfl R.c0 rfl ?_
          refine x_lle (t := 82) rfl rfl rfl (fun c6 => ?_) (fun c6 => ?_)
          · refine x_run 1 (pc' := 83) (lv' := [(0, .ref (X.1 0)), (1, .int (nI r)), (2, .int (nI p))]) (st' := [.ref (X.1 0)]) rfl ?_
            refine x_get (v := .ref (X.1 3)) rfl rfl R.c0 rfl ?_
            refine x_run 2 (pc' := 88) (lv' := [(0, .ref (X.1 0)), (1, .int (nI r)), (2, .int (nI p))]) (st' := [.int (nI p), .int (nI r), .ref (X.1 3)]) rfl ?_
            refine x_iast (j := r) rfl R.c3 (mm_idx_nI (by omega) (by omega)) ?_
            refine gen_h (A := Rep (u + 1) (v + 60 * (r + 1)) X (sN P 3 r (p)) M z) (R.uPct _ (by omega)) (fun h R => ?_)
            refine x_run 2 (pc' := 91) (lv' := [(0, .ref (X.1 0)), (1, .int (nI r)), (2, .int (nI p))]) (st' := [.int (nI r), .ref (X.1 0)]) rfl ?_
            refine x_wr (v := .long ((p_serveR p_open (r + 1) 0 (sN P 3 r (p)) 0).2)) (A := Rep (u + 1) v X ((p_serveR p_open (r + 1) 0 (sN P 3 r (p)) 0).1) M z) (k' := 26) (as := [.ref (X.1 0), .int (nI r)]) (rest := []) (x_isV (np := 1) rfl rfl rfl R.c0 rfl) (c_through (l := r) R (by omega)) (fun h R => ?_)
            rw [show o_div p_open P r p = (0, some (.long ((p_serveR p_open (r + 1) 0 (sN P 3 r (p)) 0).2)), (p_serveR p_open (r + 1) 0 (sN P 3 r (p)) 0).1) from by simp only [o_div, c1, c2, g3, c4, c5, c6, not_true_eq_false, not_false_eq_true, if_true, if_false, ite_true, ite_false, reduceIte, reduceCtorEq, Classical.not_not]]
            exact x_ret (v := some (.long ((p_serveR p_open (r + 1) 0 (sN P 3 r (p)) 0).2))) rfl rfl rfl (pQ_0 (R.less (by omega) (by omega)))
          · rw [show o_div p_open P r p = (8, none, P) from by simp only [o_div, c1, c2, g3, c4, c5, c6, not_true_eq_false, not_false_eq_true, if_true, if_false, ite_true, ite_false, reduceIte, reduceCtorEq, Classical.not_not]]
            exact pQ_th (x_throw (R.less (v' := v) (Nat.le_refl _) (by omega)) rfl rfl rfl rfl rfl rfl rfl rfl (by omega)) (by decide)
        · replace c5 := bI_n0 c5
          rw [show o_div p_open P r p = (6, none, P) from by simp only [o_div, c1, c2, g3, c4, c5, not_true_eq_false, not_false_eq_true, if_true, if_false, ite_true, ite_false, reduceIte, reduceCtorEq, Classical.not_not]]
          exact pQ_th (x_throw (R.less (v' := v) (Nat.le_refl _) (by omega)) rfl rfl rfl rfl rfl rfl rfl rfl (by omega)) (by decide)
    · replace c2 := mt (nI_leI (by omega) (by omega)).mpr c2
      omega
theorem c_catch (R : Rep (u + 1) (v + 60 * (7 + 1)) X P M z h) : Wx (d + 7) 11 0 (lv_args 0 [.ref (X.1 0)]) [] h (pQ (RP u v X M z) (o_catch p_open P)) := by
  show Wx _ _ 0 [(0, .ref (X.1 0))] [] h _
  refine x_run 1 (pc' := 1) (lv' := [(0, .ref (X.1 0))]) (st' := [.ref (X.1 0)]) rfl ?_
  by_cases g1 : ¬ pI P 4 0 = 0
  · rw [show o_catch p_open P = (6, none, P) from by simp only [o_catch, g1, not_true_eq_false, not_false_eq_true, if_true, if_false, ite_true, ite_false, reduceIte, reduceCtorEq, Classical.not_not]]
    exact x_up (k' := 18) (as := [.ref (X.1 0)]) (rest := []) (x_isV (np := 0) rfl rfl rfl R.c0 rfl) rfl (c_liveX R g1) (fun r e => pQ_x (by decide) (e.imp fun a q => ⟨q.1, q.2.less (Nat.le_refl _) (by omega)⟩))
  refine x_rd0 (k' := 18) (as := [.ref (X.1 0)]) (rest := []) (x_isV (np := 0) rfl rfl rfl R.c0 rfl) (c_live R (Classical.not_not.mp g1)) ?_
  refine x_run 2 (pc' := 7) (lv' := [(0, .ref (X.1 0))]) (st' := [.int (7), .ref (X.1 0)]) rfl ?_
  refine x_wr (v := .long ((p_serveR p_open (7 + 1) 0 P 0).2)) (A := Rep (u + 1) v X ((p_serveR p_open (7 + 1) 0 P 0).1) M z) (k' := 26) (as := [.ref (X.1 0), .int (7)]) (rest := []) (x_isV (np := 1) rfl rfl rfl R.c0 rfl) (c_through (l := 7) R (by omega)) (fun h R => ?_)
  rw [show o_catch p_open P = (0, some (.long ((p_serveR p_open (7 + 1) 0 P 0).2)), (p_serveR p_open (7 + 1) 0 P 0).1) from by simp only [o_catch, g1, not_true_eq_false, not_false_eq_true, if_true, if_false, ite_true, ite_false, reduceIte, reduceCtorEq, Classical.not_not]]
  exact x_ret (v := some (.long ((p_serveR p_open (7 + 1) 0 P 0).2))) rfl rfl rfl (pQ_0 (R.less (by omega) (by omega)))
theorem c_owesX (R : Rep (u + 1) v X P M z h) {q : Int32} (hq : q < 0 ∨ nI (pn P) ≤ q) (n : Int64) : Wx (d + 7) 2 0 (lv_args 0 [.ref (X.1 0), .int (q), .long (n)]) [] h (x_th 7 (Rep u v X P M z)) := by
  show Wx _ _ 0 [(0, .ref (X.1 0)), (1, .int (q)), (2, .long (n))] [] h _
  refine x_run 2 (pc' := 2) (lv' := [(0, .ref (X.1 0)), (1, .int (q)), (2, .long (n))]) (st' := [.int (q), .ref (X.1 0)]) rfl ?_
  exact x_up (k' := 21) (as := [.ref (X.1 0), .int (q)]) (rest := []) (x_isV (np := 1) rfl rfl rfl R.c0 rfl) rfl (c_claimAtX R hq) (fun r e => e)
theorem c_contestX (R : Rep (u + 1) v X P M z h) {q : Int32} (hq : q < 0 ∨ nI (pn P) ≤ q) : Wx (d + 7) 6 0 (lv_args 0 [.ref (X.1 0), .int (q)]) [] h (x_th 7 (Rep u v X P M z)) := by
  show Wx _ _ 0 [(0, .ref (X.1 0)), (1, .int (q))] [] h _
  refine x_run 2 (pc' := 2) (lv' := [(0, .ref (X.1 0)), (1, .int (q))]) (st' := [.int (q), .ref (X.1 0)]) rfl ?_
  exact x_up (k' := 21) (as := [.ref (X.1 0), .int (q)]) (rest := []) (x_isV (np := 1) rfl rfl rfl R.c0 rfl) rfl (c_claimAtX R hq) (fun r e => e)
theorem c_settleX (R : Rep (u + 1) v X P M z h) {q : Int32} (hq : q < 0 ∨ nI (pn P) ≤ q) (n : Int64) : Wx (d + 7) 7 0 (lv_args 0 [.ref (X.1 0), .int (q), .long (n)]) [] h (x_th 7 (Rep u v X P M z)) := by
  show Wx _ _ 0 [(0, .ref (X.1 0)), (1, .int (q)), (2, .long (n))] [] h _
  refine x_run 2 (pc' := 2) (lv' := [(0, .ref (X.1 0)), (1, .int (q)), (2, .long (n))]) (st' := [.int (q), .ref (X.1 0)]) rfl ?_
  exact x_up (k' := 21) (as := [.ref (X.1 0), .int (q)]) (rest := []) (x_isV (np := 1) rfl rfl rfl R.c0 rfl) rfl (c_claimAtX R hq) (fun r e => e)
theorem c_toldX (R : Rep (u + 1) v X P M z h) {q : Int32} (hq : q < 0 ∨ nI (pn P) ≤ q) (w : Int32) : Wx (d + 7) 13 0 (lv_args 0 [.ref (X.1 0), .int (q), .int (w)]) [] h (x_th 7 (Rep u v X P M z)) := by
  show Wx _ _ 0 [(0, .ref (X.1 0)), (1, .int (q)), (2, .int (w))] [] h _
  refine x_run 2 (pc' := 2) (lv' := [(0, .ref (X.1 0)), (1, .int (q)), (2, .int (w))]) (st' := [.int (q), .ref (X.1 0)]) rfl ?_
  exact x_up (k' := 21) (as := [.ref (X.1 0), .int (q)]) (rest := []) (x_isV (np := 1) rfl rfl rfl R.c0 rfl) rfl (c_claimAtX R hq) (fun r e => e)
theorem c_realiseX (R : Rep (u + 1) v X P M z h) {q : Int32} (hq : q < 0 ∨ nI (pa P) ≤ q) (n : Int64) : Wx (d + 7) 5 0 (lv_args 0 [.ref (X.1 0), .int (q), .long (n)]) [] h (x_th 7 (Rep u v X P M z)) := by
  show Wx _ _ 0 [(0, .ref (X.1 0)), (1, .int (q)), (2, .long (n))] [] h _
  refine x_run 2 (pc' := 2) (lv' := [(0, .ref (X.1 0)), (1, .int (q)), (2, .long (n))]) (st' := [.int (q), .ref (X.1 0)]) rfl ?_
  exact x_up (k' := 22) (as := [.ref (X.1 0), .int (q)]) (rest := []) (x_isV (np := 1) rfl rfl rfl R.c0 rfl) rfl (c_assetAtX R hq) (fun r e => e)
theorem c_secureAX (R : Rep (u + 1) v X P M z h) {q : Int32} (hq : q < 0 ∨ nI (pa P) ≤ q) (c : Int32) (n : Int64) : Wx (d + 7) 4 0 (lv_args 0 [.ref (X.1 0), .int (q), .int (c), .long (n)]) [] h (x_th 7 (Rep u v X P M z)) := by
  show Wx _ _ 0 [(0, .ref (X.1 0)), (1, .int (q)), (2, .int (c)), (3, .long (n))] [] h _
  refine x_run 2 (pc' := 2) (lv' := [(0, .ref (X.1 0)), (1, .int (q)), (2, .int (c)), (3, .long (n))]) (st' := [.int (q), .ref (X.1 0)]) rfl ?_
  exact x_up (k' := 22) (as := [.ref (X.1 0), .int (q)]) (rest := []) (x_isV (np := 1) rfl rfl rfl R.c0 rfl) rfl (c_assetAtX R hq) (fun r e => e)
theorem c_secureCX (R : Rep (u + 1) v X P M z h) (hj : j < pa P) {q : Int32} (hq : q < 0 ∨ nI (pn P) ≤ q) (n : Int64) : Wx (d + 7) 4 0 (lv_args 0 [.ref (X.1 0), .int (nI j), .int (q), .long (n)]) [] h (x_th 7 (Rep u v X P M z)) := by
  show Wx _ _ 0 [(0, .ref (X.1 0)), (1, .int (nI j)), (2, .int (q)), (3, .long (n))] [] h _
  refine x_run 2 (pc' := 2) (lv' := [(0, .ref (X.1 0)), (1, .int (nI j)), (2, .int (q)), (3, .long (n))]) (st' := [.int (nI j), .ref (X.1 0)]) rfl ?_
  refine x_rd (v := .ref (X.1 (200 + j))) (k' := 22) (as := [.ref (X.1 0), .int (nI j)]) (rest := []) (x_isV (np := 1) rfl rfl rfl R.c0 rfl) (c_assetAt R hj) ?_
  refine x_run 3 (pc' := 9) (lv' := [(5, .ref (X.1 (200 + j))), (0, .ref (X.1 0)), (1, .int (nI j)), (2, .int (q)), (3, .long (n))]) (st' := [.int (q), .ref (X.1 0)]) rfl ?_
  exact x_up (k' := 21) (as := [.ref (X.1 0), .int (q)]) (rest := []) (x_isV (np := 1) rfl rfl rfl R.c0 rfl) rfl (c_claimAtX R hq) (fun r e => e)
theorem c_claimX (R : Rep (u + 1) v X P M z h) {q : Int32} (hq : q < 0 ∨ 8 ≤ q) (n : Int64) : Wx (d + 7) 1 0 (lv_args 0 [.ref (X.1 0), .int (q), .long (n)]) [] h (x_th 5 (Rep u v X P M z)) := by
  show Wx _ _ 0 [(0, .ref (X.1 0)), (1, .int (q)), (2, .long (n))] [] h _
  refine x_run 1 (pc' := 1) (lv' := [(0, .ref (X.1 0)), (1, .int (q)), (2, .long (n))]) (st' := [.int (q)]) rfl ?_
  exact x_up (k' := 19) (as := [.int (q)]) (rest := []) (x_isS (np := 1) rfl rfl rfl rfl rfl) rfl (c_rankX R hq) (fun r e => e)
theorem c_divX (R : Rep (u + 1) v X P M z h) {q : Int32} (hq : q < 0 ∨ 8 ≤ q) (p : Int32) : Wx (d + 7) 9 0 (lv_args 0 [.ref (X.1 0), .int (q), .int (p)]) [] h (x_th 5 (Rep u v X P M z)) := by
  show Wx _ _ 0 [(0, .ref (X.1 0)), (1, .int (q)), (2, .int (p))] [] h _
  refine x_run 1 (pc' := 1) (lv' := [(0, .ref (X.1 0)), (1, .int (q)), (2, .int (p))]) (st' := [.int (q)]) rfl ?_
  exact x_up (k' := 19) (as := [.int (q)]) (rest := []) (x_isS (np := 1) rfl rfl rfl rfl rfl) rfl (c_rankX R hq) (fun r e => e)
theorem c_greatestX (R : Rep (u + 1) v X P M z h) {q : Int32} (hq : q < 0 ∨ 8 ≤ q) : Wx (d + 7) 10 0 (lv_args 0 [.ref (X.1 0), .int (q)]) [] h (x_th 5 (Rep u v X P M z)) := by
  show Wx _ _ 0 [(0, .ref (X.1 0)), (1, .int (q))] [] h _
  refine x_run 1 (pc' := 1) (lv' := [(0, .ref (X.1 0)), (1, .int (q))]) (st' := [.int (q)]) rfl ?_
  exact x_up (k' := 19) (as := [.int (q)]) (rest := []) (x_isS (np := 1) rfl rfl rfl rfl rfl) rfl (c_rankX R hq) (fun r e => e)
theorem c_percentageX (R : Rep (u + 1) v X P M z h) {q : Int32} (hq : q < 0 ∨ 8 ≤ q) : Wx (d + 7) 14 0 (lv_args 0 [.ref (X.1 0), .int (q)]) [] h (x_th 5 (Rep u v X P M z)) := by
  show Wx _ _ 0 [(0, .ref (X.1 0)), (1, .int (q))] [] h _
  refine x_run 1 (pc' := 1) (lv' := [(0, .ref (X.1 0)), (1, .int (q))]) (st' := [.int (q)]) rfl ?_
  exact x_up (k' := 19) (as := [.int (q)]) (rest := []) (x_isS (np := 1) rfl rfl rfl rfl rfl) rfl (c_rankX R hq) (fun r e => e)
theorem c_divPX (R : Rep (u + 1) v X P M z h) {r : Nat} (hr : r < 8) {p : Int32} (hp : p < 1 ∨ 10000 < p) : Wx (d + 7) 9 0 (lv_args 0 [.ref (X.1 0), .int (nI r), .int (p)]) [] h (x_th 5 (Rep u v X P M z)) := by
  show Wx _ _ 0 [(0, .ref (X.1 0)), (1, .int (nI r)), (2, .int (p))] [] h _
  refine x_run 1 (pc' := 1) (lv' := [(0, .ref (X.1 0)), (1, .int (nI r)), (2, .int (p))]) (st' := [.int (nI r)]) rfl ?_
  refine x_rd0 (k' := 19) (as := [.int (nI r)]) (rest := []) (x_isS (np := 1) rfl rfl rfl rfl rfl) (c_rank R hr) ?_
  refine x_run 2 (pc' := 6) (lv' := [(0, .ref (X.1 0)), (1, .int (nI r)), (2, .int (p))]) (st' := [.int (1), .int (p)]) rfl ?_
  refine x_if (c := p < 1) (t := 16) rfl rfl (fun c1 => ?_) (fun c1 => ?_)
  · exact x_throw R rfl rfl rfl rfl rfl rfl rfl rfl (by omega)
  · refine x_run 2 (pc' := 13) (lv' := [(0, .ref (X.1 0)), (1, .int (nI r)), (2, .int (p))]) (st' := [.int (10000), .int (p)]) rfl ?_
    refine x_if (c := p ≤ 10000) (t := 26) rfl rfl (fun c2 => ?_) (fun c2 => ?_)
    · exact absurd hp (fun e => e.elim c1 (fun e => Int32.not_lt.mpr c2 e))
    · exact x_throw R rfl rfl rfl rfl rfl rfl rfl rfl (by omega)
theorem c_percentage (R : Rep u v X P M z h) {r : Nat} (hr : r < 8) : Wx (d + 1) 14 0 (lv_args 0 [.ref (X.1 0), .int (nI r)]) [] h (fun r0 => r0 = (.inl (some (.int (nI (pN P 3 r)))), h)) := by
  show Wx _ _ 0 [(0, .ref (X.1 0)), (1, .int (nI r))] [] h _
  refine x_run 1 (pc' := 1) (lv' := [(0, .ref (X.1 0)), (1, .int (nI r))]) (st' := [.int (nI r)]) rfl ?_
  refine x_rd0 (k' := 19) (as := [.int (nI r)]) (rest := []) (x_isS (np := 1) rfl rfl rfl rfl rfl) (c_rank R hr) ?_
  refine x_run 1 (pc' := 5) (lv' := [(0, .ref (X.1 0)), (1, .int (nI r))]) (st' := [.ref (X.1 0)]) rfl ?_
  refine x_get (v := .ref (X.1 3)) rfl rfl R.c0 rfl ?_
  refine x_run 1 (pc' := 9) (lv' := [(0, .ref (X.1 0)), (1, .int (nI r))]) (st' := [.int (nI r), .ref (X.1 3)]) rfl ?_
  refine x_iald (j := r) rfl R.c3 (mm_idx_nI (by omega) (by omega)) ?_
  exact x_ret (v := some (.int (nI (pN P 3 r)))) rfl rfl rfl rfl
theorem c_entries (R : Rep u v X P M z h) : Wx (d) 16 0 (lv_args 0 [.ref (X.1 0)]) [] h (fun r0 => r0 = (.inl (some (.int (nI (pj P)))), h)) := by
  show Wx _ _ 0 [(0, .ref (X.1 0))] [] h _
  refine x_run 1 (pc' := 1) (lv' := [(0, .ref (X.1 0))]) (st' := [.ref (X.1 0)]) rfl ?_
  refine x_get (v := .ref (X.1 4)) rfl rfl R.c0 rfl ?_
  refine x_get (v := .int (nI (pj P))) rfl rfl R.c4 rfl ?_
  exact x_ret (v := some (.int (nI (pj P)))) rfl rfl rfl rfl
theorem c_sum0 (R : Rep u v X P M z h) : Wx (d + 1) 15 0 (lv_args 0 [.ref (X.1 0), .int (0)]) [] h (fun r0 => r0 = (.inl (some (.long (pL P 7 0))), h)) := by
  show Wx _ _ 0 [(0, .ref (X.1 0)), (1, .int (0))] [] h _
  refine x_run 1 (pc' := 1) (lv' := [(0, .ref (X.1 0)), (1, .int (0))]) (st' := [.int (0)]) rfl ?_
  refine x_step (pc' := 40) (lv' := [(0, .ref (X.1 0)), (1, .int (0))]) (st' := []) (h' := h) rfl rfl ?_
  refine x_run 1 (pc' := 41) (lv' := [(0, .ref (X.1 0)), (1, .int (0))]) (st' := [.ref (X.1 0)]) rfl ?_
  refine x_get (v := .long (pL P 7 0)) rfl rfl R.c0 rfl ?_
  exact x_ret (v := some (.long (pL P 7 0))) rfl rfl rfl rfl
theorem c_sum1 (R : Rep u v X P M z h) : Wx (d + 1) 15 0 (lv_args 0 [.ref (X.1 0), .int (1)]) [] h (fun r0 => r0 = (.inl (some (.long (p_all P 4 (pn P) 0 0))), h)) := by
  show Wx _ _ 0 [(0, .ref (X.1 0)), (1, .int (1))] [] h _
  refine x_run 1 (pc' := 1) (lv' := [(0, .ref (X.1 0)), (1, .int (1))]) (st' := [.int (1)]) rfl ?_
  refine x_step (pc' := 45) (lv' := [(0, .ref (X.1 0)), (1, .int (1))]) (st' := []) (h' := h) rfl rfl ?_
  refine x_run 1 (pc' := 46) (lv' := [(0, .ref (X.1 0)), (1, .int (1))]) (st' := [.ref (X.1 0)]) rfl ?_
  refine x_rd (v := .long (p_all P 4 (pn P) 0 0)) (k' := 36) (as := [.ref (X.1 0)]) (rest := []) (x_isV (np := 0) rfl rfl rfl R.c0 rfl) (c_all4 R) ?_
  exact x_ret (v := some (.long (p_all P 4 (pn P) 0 0))) rfl rfl rfl rfl
theorem c_sum2 (R : Rep u v X P M z h) : Wx (d + 1) 15 0 (lv_args 0 [.ref (X.1 0), .int (2)]) [] h (fun r0 => r0 = (.inl (some (.long (pL P 7 1))), h)) := by
  show Wx _ _ 0 [(0, .ref (X.1 0)), (1, .int (2))] [] h _
  refine x_run 1 (pc' := 1) (lv' := [(0, .ref (X.1 0)), (1, .int (2))]) (st' := [.int (2)]) rfl ?_
  refine x_step (pc' := 50) (lv' := [(0, .ref (X.1 0)), (1, .int (2))]) (st' := []) (h' := h) rfl rfl ?_
  refine x_run 1 (pc' := 51) (lv' := [(0, .ref (X.1 0)), (1, .int (2))]) (st' := [.ref (X.1 0)]) rfl ?_
  refine x_get (v := .long (pL P 7 1)) rfl rfl R.c0 rfl ?_
  exact x_ret (v := some (.long (pL P 7 1))) rfl rfl rfl rfl
theorem c_sum3 (R : Rep u v X P M z h) : Wx (d + 1) 15 0 (lv_args 0 [.ref (X.1 0), .int (3)]) [] h (fun r0 => r0 = (.inl (some (.long (pL P 7 2))), h)) := by
  show Wx _ _ 0 [(0, .ref (X.1 0)), (1, .int (3))] [] h _
  refine x_run 1 (pc' := 1) (lv' := [(0, .ref (X.1 0)), (1, .int (3))]) (st' := [.int (3)]) rfl ?_
  refine x_step (pc' := 55) (lv' := [(0, .ref (X.1 0)), (1, .int (3))]) (st' := []) (h' := h) rfl rfl ?_
  refine x_run 1 (pc' := 56) (lv' := [(0, .ref (X.1 0)), (1, .int (3))]) (st' := [.ref (X.1 0)]) rfl ?_
  refine x_get (v := .long (pL P 7 2)) rfl rfl R.c0 rfl ?_
  exact x_ret (v := some (.long (pL P 7 2))) rfl rfl rfl rfl
theorem c_sum4 (R : Rep u v X P M z h) : Wx (d + 1) 15 0 (lv_args 0 [.ref (X.1 0), .int (4)]) [] h (fun r0 => r0 = (.inl (some (.long (p_all P 2 (pn P) 0 0))), h)) := by
  show Wx _ _ 0 [(0, .ref (X.1 0)), (1, .int (4))] [] h _
  refine x_run 1 (pc' := 1) (lv' := [(0, .ref (X.1 0)), (1, .int (4))]) (st' := [.int (4)]) rfl ?_
  refine x_step (pc' := 60) (lv' := [(0, .ref (X.1 0)), (1, .int (4))]) (st' := []) (h' := h) rfl rfl ?_
  refine x_run 1 (pc' := 61) (lv' := [(0, .ref (X.1 0)), (1, .int (4))]) (st' := [.ref (X.1 0)]) rfl ?_
  refine x_rd (v := .long (p_all P 2 (pn P) 0 0)) (k' := 37) (as := [.ref (X.1 0)]) (rest := []) (x_isV (np := 0) rfl rfl rfl R.c0 rfl) (c_all2 R) ?_
  exact x_ret (v := some (.long (p_all P 2 (pn P) 0 0))) rfl rfl rfl rfl
theorem c_sum5 (R : Rep u v X P M z h) : Wx (d + 1) 15 0 (lv_args 0 [.ref (X.1 0), .int (5)]) [] h (fun r0 => r0 = (.inl (some (.long (p_all P 3 (pn P) 0 0))), h)) := by
  show Wx _ _ 0 [(0, .ref (X.1 0)), (1, .int (5))] [] h _
  refine x_run 1 (pc' := 1) (lv' := [(0, .ref (X.1 0)), (1, .int (5))]) (st' := [.int (5)]) rfl ?_
  refine x_step (pc' := 65) (lv' := [(0, .ref (X.1 0)), (1, .int (5))]) (st' := []) (h' := h) rfl rfl ?_
  refine x_run 1 (pc' := 66) (lv' := [(0, .ref (X.1 0)), (1, .int (5))]) (st' := [.ref (X.1 0)]) rfl ?_
  refine x_rd (v := .long (p_all P 3 (pn P) 0 0)) (k' := 38) (as := [.ref (X.1 0)]) (rest := []) (x_isV (np := 0) rfl rfl rfl R.c0 rfl) (c_all3 R) ?_
  exact x_ret (v := some (.long (p_all P 3 (pn P) 0 0))) rfl rfl rfl rfl
theorem c_sumX (R : Rep u v X P M z h) {w : Int32} (hw : w.toInt < 0 ∨ 5 < w.toInt) : Wx (d + 1) 15 0 (lv_args 0 [.ref (X.1 0), .int (w)]) [] h (fun r0 => r0 = (.inl (some (.long (-1))), h)) := by
  show Wx _ _ 0 [(0, .ref (X.1 0)), (1, .int (w))] [] h _
  refine x_run 1 (pc' := 1) (lv' := [(0, .ref (X.1 0)), (1, .int (w))]) (st' := [.int (w)]) rfl ?_
  refine x_swd (t := 70) rfl hw rfl ?_
  refine x_ldc2 (x := -1) rfl rfl ?_
  exact x_ret (v := some (.long (-1))) rfl rfl rfl rfl
theorem c_told0 (R : Rep u v X P M z h) (hi : i < pn P) : Wx (d + 4) 13 0 (lv_args 0 [.ref (X.1 0), .int (nI i), .int (0)]) [] h (fun r0 => r0 = (.inl (some (.long ((nI (pN P 0 i)).toInt64))), h)) := by
  show Wx _ _ 0 [(0, .ref (X.1 0)), (1, .int (nI i)), (2, .int (0))] [] h _
  refine x_run 2 (pc' := 2) (lv' := [(0, .ref (X.1 0)), (1, .int (nI i)), (2, .int (0))]) (st' := [.int (nI i), .ref (X.1 0)]) rfl ?_
  refine x_rd (v := .ref (X.1 (100 + i))) (k' := 21) (as := [.ref (X.1 0), .int (nI i)]) (rest := []) (x_isV (np := 1) rfl rfl rfl R.c0 rfl) (c_claimAt R hi) ?_
  refine x_run 2 (pc' := 7) (lv' := [(3, .ref (X.1 (100 + i))), (0, .ref (X.1 0)), (1, .int (nI i)), (2, .int (0))]) (st' := [.int (0)]) rfl ?_
  refine x_step (pc' := 60) (lv' := [(3, .ref (X.1 (100 + i))), (0, .ref (X.1 0)), (1, .int (nI i)), (2, .int (0))]) (st' := []) (h' := h) rfl rfl ?_
  refine x_run 1 (pc' := 61) (lv' := [(3, .ref (X.1 (100 + i))), (0, .ref (X.1 0)), (1, .int (nI i)), (2, .int (0))]) (st' := [.ref (X.1 (100 + i))]) rfl ?_
  refine x_get (v := .int (nI (pN P 0 i))) rfl rfl (R.cC hi) rfl ?_
  refine x_run 1 (pc' := 65) (lv' := [(3, .ref (X.1 (100 + i))), (0, .ref (X.1 0)), (1, .int (nI i)), (2, .int (0))]) (st' := [.long ((nI (pN P 0 i)).toInt64)]) rfl ?_
  exact x_ret (v := some (.long ((nI (pN P 0 i)).toInt64))) rfl rfl rfl rfl
theorem c_told1 (R : Rep u v X P M z h) (hi : i < pn P) : Wx (d + 4) 13 0 (lv_args 0 [.ref (X.1 0), .int (nI i), .int (1)]) [] h (fun r0 => r0 = (.inl (some (.long ((pI P 0 i).toInt64))), h)) := by
  show Wx _ _ 0 [(0, .ref (X.1 0)), (1, .int (nI i)), (2, .int (1))] [] h _
  refine x_run 2 (pc' := 2) (lv' := [(0, .ref (X.1 0)), (1, .int (nI i)), (2, .int (1))]) (st' := [.int (nI i), .ref (X.1 0)]) rfl ?_
  refine x_rd (v := .ref (X.1 (100 + i))) (k' := 21) (as := [.ref (X.1 0), .int (nI i)]) (rest := []) (x_isV (np := 1) rfl rfl rfl R.c0 rfl) (c_claimAt R hi) ?_
  refine x_run 2 (pc' := 7) (lv' := [(3, .ref (X.1 (100 + i))), (0, .ref (X.1 0)), (1, .int (nI i)), (2, .int (1))]) (st' := [.int (1)]) rfl ?_
  refine x_step (pc' := 66) (lv' := [(3, .ref (X.1 (100 + i))), (0, .ref (X.1 0)), (1, .int (nI i)), (2, .int (1))]) (st' := []) (h' := h) rfl rfl ?_
  refine x_run 1 (pc' := 67) (lv' := [(3, .ref (X.1 (100 + i))), (0, .ref (X.1 0)), (1, .int (nI i)), (2, .int (1))]) (st' := [.ref (X.1 (100 + i))]) rfl ?_
  refine x_get (v := .int (pI P 0 i)) rfl rfl (R.cC hi) rfl ?_
  refine x_run 1 (pc' := 71) (lv' := [(3, .ref (X.1 (100 + i))), (0, .ref (X.1 0)), (1, .int (nI i)), (2, .int (1))]) (st' := [.long ((pI P 0 i).toInt64)]) rfl ?_
  exact x_ret (v := some (.long ((pI P 0 i).toInt64))) rfl rfl rfl rfl
theorem c_told2 (R : Rep u v X P M z h) (hi : i < pn P) : Wx (d + 4) 13 0 (lv_args 0 [.ref (X.1 0), .int (nI i), .int (2)]) [] h (fun r0 => r0 = (.inl (some (.long (pL P 0 i))), h)) := by
  show Wx _ _ 0 [(0, .ref (X.1 0)), (1, .int (nI i)), (2, .int (2))] [] h _
  refine x_run 2 (pc' := 2) (lv' := [(0, .ref (X.1 0)), (1, .int (nI i)), (2, .int (2))]) (st' := [.int (nI i), .ref (X.1 0)]) rfl ?_
  refine x_rd (v := .ref (X.1 (100 + i))) (k' := 21) (as := [.ref (X.1 0), .int (nI i)]) (rest := []) (x_isV (np := 1) rfl rfl rfl R.c0 rfl) (c_claimAt R hi) ?_
  refine x_run 2 (pc' := 7) (lv' := [(3, .ref (X.1 (100 + i))), (0, .ref (X.1 0)), (1, .int (nI i)), (2, .int (2))]) (st' := [.int (2)]) rfl ?_
  refine x_step (pc' := 72) (lv' := [(3, .ref (X.1 (100 + i))), (0, .ref (X.1 0)), (1, .int (nI i)), (2, .int (2))]) (st' := []) (h' := h) rfl rfl ?_
  refine x_run 1 (pc' := 73) (lv' := [(3, .ref (X.1 (100 + i))), (0, .ref (X.1 0)), (1, .int (nI i)), (2, .int (2))]) (st' := [.ref (X.1 (100 + i))]) rfl ?_
  refine x_get (v := .long (pL P 0 i)) rfl rfl (R.cC hi) rfl ?_
  exact x_ret (v := some (.long (pL P 0 i))) rfl rfl rfl rfl
theorem c_told3 (R : Rep u v X P M z h) (hi : i < pn P) : Wx (d + 4) 13 0 (lv_args 0 [.ref (X.1 0), .int (nI i), .int (3)]) [] h (fun r0 => r0 = (.inl (some (.long (pL P 1 i))), h)) := by
  show Wx _ _ 0 [(0, .ref (X.1 0)), (1, .int (nI i)), (2, .int (3))] [] h _
  refine x_run 2 (pc' := 2) (lv' := [(0, .ref (X.1 0)), (1, .int (nI i)), (2, .int (3))]) (st' := [.int (nI i), .ref (X.1 0)]) rfl ?_
  refine x_rd (v := .ref (X.1 (100 + i))) (k' := 21) (as := [.ref (X.1 0), .int (nI i)]) (rest := []) (x_isV (np := 1) rfl rfl rfl R.c0 rfl) (c_claimAt R hi) ?_
  refine x_run 2 (pc' := 7) (lv' := [(3, .ref (X.1 (100 + i))), (0, .ref (X.1 0)), (1, .int (nI i)), (2, .int (3))]) (st' := [.int (3)]) rfl ?_
  refine x_step (pc' := 77) (lv' := [(3, .ref (X.1 (100 + i))), (0, .ref (X.1 0)), (1, .int (nI i)), (2, .int (3))]) (st' := []) (h' := h) rfl rfl ?_
  refine x_run 1 (pc' := 78) (lv' := [(3, .ref (X.1 (100 + i))), (0, .ref (X.1 0)), (1, .int (nI i)), (2, .int (3))]) (st' := [.ref (X.1 (100 + i))]) rfl ?_
  refine x_get (v := .long (pL P 1 i)) rfl rfl (R.cC hi) rfl ?_
  exact x_ret (v := some (.long (pL P 1 i))) rfl rfl rfl rfl
theorem c_told4 (R : Rep u v X P M z h) (hi : i < pn P) : Wx (d + 4) 13 0 (lv_args 0 [.ref (X.1 0), .int (nI i), .int (4)]) [] h (fun r0 => r0 = (.inl (some (.long (pL P 2 i))), h)) := by
  show Wx _ _ 0 [(0, .ref (X.1 0)), (1, .int (nI i)), (2, .int (4))] [] h _
  refine x_run 2 (pc' := 2) (lv' := [(0, .ref (X.1 0)), (1, .int (nI i)), (2, .int (4))]) (st' := [.int (nI i), .ref (X.1 0)]) rfl ?_
  refine x_rd (v := .ref (X.1 (100 + i))) (k' := 21) (as := [.ref (X.1 0), .int (nI i)]) (rest := []) (x_isV (np := 1) rfl rfl rfl R.c0 rfl) (c_claimAt R hi) ?_
  refine x_run 2 (pc' := 7) (lv' := [(3, .ref (X.1 (100 + i))), (0, .ref (X.1 0)), (1, .int (nI i)), (2, .int (4))]) (st' := [.int (4)]) rfl ?_
  refine x_step (pc' := 82) (lv' := [(3, .ref (X.1 (100 + i))), (0, .ref (X.1 0)), (1, .int (nI i)), (2, .int (4))]) (st' := []) (h' := h) rfl rfl ?_
  refine x_run 1 (pc' := 83) (lv' := [(3, .ref (X.1 (100 + i))), (0, .ref (X.1 0)), (1, .int (nI i)), (2, .int (4))]) (st' := [.ref (X.1 (100 + i))]) rfl ?_
  refine x_get (v := .long (pL P 2 i)) rfl rfl (R.cC hi) rfl ?_
  exact x_ret (v := some (.long (pL P 2 i))) rfl rfl rfl rfl
theorem c_told5 (R : Rep u v X P M z h) (hi : i < pn P) : Wx (d + 4) 13 0 (lv_args 0 [.ref (X.1 0), .int (nI i), .int (5)]) [] h (fun r0 => r0 = (.inl (some (.long (pL P 3 i))), h)) := by
  show Wx _ _ 0 [(0, .ref (X.1 0)), (1, .int (nI i)), (2, .int (5))] [] h _
  refine x_run 2 (pc' := 2) (lv' := [(0, .ref (X.1 0)), (1, .int (nI i)), (2, .int (5))]) (st' := [.int (nI i), .ref (X.1 0)]) rfl ?_
  refine x_rd (v := .ref (X.1 (100 + i))) (k' := 21) (as := [.ref (X.1 0), .int (nI i)]) (rest := []) (x_isV (np := 1) rfl rfl rfl R.c0 rfl) (c_claimAt R hi) ?_
  refine x_run 2 (pc' := 7) (lv' := [(3, .ref (X.1 (100 + i))), (0, .ref (X.1 0)), (1, .int (nI i)), (2, .int (5))]) (st' := [.int (5)]) rfl ?_
  refine x_step (pc' := 87) (lv' := [(3, .ref (X.1 (100 + i))), (0, .ref (X.1 0)), (1, .int (nI i)), (2, .int (5))]) (st' := []) (h' := h) rfl rfl ?_
  refine x_run 1 (pc' := 88) (lv' := [(3, .ref (X.1 (100 + i))), (0, .ref (X.1 0)), (1, .int (nI i)), (2, .int (5))]) (st' := [.ref (X.1 (100 + i))]) rfl ?_
  refine x_get (v := .long (pL P 3 i)) rfl rfl (R.cC hi) rfl ?_
  exact x_ret (v := some (.long (pL P 3 i))) rfl rfl rfl rfl
theorem c_told6 (R : Rep u v X P M z h) (hi : i < pn P) : Wx (d + 4) 13 0 (lv_args 0 [.ref (X.1 0), .int (nI i), .int (6)]) [] h (fun r0 => r0 = (.inl (some (.long (pL P 4 i))), h)) := by
  show Wx _ _ 0 [(0, .ref (X.1 0)), (1, .int (nI i)), (2, .int (6))] [] h _
  refine x_run 2 (pc' := 2) (lv' := [(0, .ref (X.1 0)), (1, .int (nI i)), (2, .int (6))]) (st' := [.int (nI i), .ref (X.1 0)]) rfl ?_
  refine x_rd (v := .ref (X.1 (100 + i))) (k' := 21) (as := [.ref (X.1 0), .int (nI i)]) (rest := []) (x_isV (np := 1) rfl rfl rfl R.c0 rfl) (c_claimAt R hi) ?_
  refine x_run 2 (pc' := 7) (lv' := [(3, .ref (X.1 (100 + i))), (0, .ref (X.1 0)), (1, .int (nI i)), (2, .int (6))]) (st' := [.int (6)]) rfl ?_
  refine x_step (pc' := 92) (lv' := [(3, .ref (X.1 (100 + i))), (0, .ref (X.1 0)), (1, .int (nI i)), (2, .int (6))]) (st' := []) (h' := h) rfl rfl ?_
  refine x_run 1 (pc' := 93) (lv' := [(3, .ref (X.1 (100 + i))), (0, .ref (X.1 0)), (1, .int (nI i)), (2, .int (6))]) (st' := [.ref (X.1 (100 + i))]) rfl ?_
  refine x_get (v := .long (pL P 4 i)) rfl rfl (R.cC hi) rfl ?_
  exact x_ret (v := some (.long (pL P 4 i))) rfl rfl rfl rfl
theorem c_told7 (R : Rep u v X P M z h) (hi : i < pn P) : Wx (d + 4) 13 0 (lv_args 0 [.ref (X.1 0), .int (nI i), .int (7)]) [] h (fun r0 => r0 = (.inl (some (.long (p_net P i))), h)) := by
  show Wx _ _ 0 [(0, .ref (X.1 0)), (1, .int (nI i)), (2, .int (7))] [] h _
  refine x_run 2 (pc' := 2) (lv' := [(0, .ref (X.1 0)), (1, .int (nI i)), (2, .int (7))]) (st' := [.int (nI i), .ref (X.1 0)]) rfl ?_
  refine x_rd (v := .ref (X.1 (100 + i))) (k' := 21) (as := [.ref (X.1 0), .int (nI i)]) (rest := []) (x_isV (np := 1) rfl rfl rfl R.c0 rfl) (c_claimAt R hi) ?_
  refine x_run 2 (pc' := 7) (lv' := [(3, .ref (X.1 (100 + i))), (0, .ref (X.1 0)), (1, .int (nI i)), (2, .int (7))]) (st' := [.int (7)]) rfl ?_
  refine x_step (pc' := 97) (lv' := [(3, .ref (X.1 (100 + i))), (0, .ref (X.1 0)), (1, .int (nI i)), (2, .int (7))]) (st' := []) (h' := h) rfl rfl ?_
  refine x_run 1 (pc' := 98) (lv' := [(3, .ref (X.1 (100 + i))), (0, .ref (X.1 0)), (1, .int (nI i)), (2, .int (7))]) (st' := [.ref (X.1 (100 + i))]) rfl ?_
  refine x_rd (v := .long (p_net P i)) (k' := 42) (as := [.ref (X.1 (100 + i))]) (rest := []) (x_isV (np := 0) rfl rfl rfl (R.cC hi) rfl) (c_net R hi) ?_
  exact x_ret (v := some (.long (p_net P i))) rfl rfl rfl rfl
theorem c_told8 (R : Rep u v X P M z h) (hi : i < pn P) : Wx (d + 4) 13 0 (lv_args 0 [.ref (X.1 0), .int (nI i), .int (8)]) [] h (fun r0 => r0 = (.inl (some (.long (p_dueOf P i))), h)) := by
  show Wx _ _ 0 [(0, .ref (X.1 0)), (1, .int (nI i)), (2, .int (8))] [] h _
  refine x_run 2 (pc' := 2) (lv' := [(0, .ref (X.1 0)), (1, .int (nI i)), (2, .int (8))]) (st' := [.int (nI i), .ref (X.1 0)]) rfl ?_
  refine x_rd (v := .ref (X.1 (100 + i))) (k' := 21) (as := [.ref (X.1 0), .int (nI i)]) (rest := []) (x_isV (np := 1) rfl rfl rfl R.c0 rfl) (c_claimAt R hi) ?_
  refine x_run 2 (pc' := 7) (lv' := [(3, .ref (X.1 (100 + i))), (0, .ref (X.1 0)), (1, .int (nI i)), (2, .int (8))]) (st' := [.int (8)]) rfl ?_
  refine x_step (pc' := 102) (lv' := [(3, .ref (X.1 (100 + i))), (0, .ref (X.1 0)), (1, .int (nI i)), (2, .int (8))]) (st' := []) (h' := h) rfl rfl ?_
  refine x_run 2 (pc' := 104) (lv' := [(3, .ref (X.1 (100 + i))), (0, .ref (X.1 0)), (1, .int (nI i)), (2, .int (8))]) (st' := [.ref (X.1 (100 + i)), .ref (X.1 0)]) rfl ?_
  refine x_rd (v := .long (p_dueOf P i)) (k' := 23) (as := [.ref (X.1 0), .ref (X.1 (100 + i))]) (rest := []) (x_isV (np := 1) rfl rfl rfl R.c0 rfl) (c_dueOf R hi) ?_
  exact x_ret (v := some (.long (p_dueOf P i))) rfl rfl rfl rfl
theorem c_told9 (R : Rep u v X P M z h) (hi : i < pn P) : Wx (d + 4) 13 0 (lv_args 0 [.ref (X.1 0), .int (nI i), .int (9)]) [] h (fun r0 => r0 = (.inl (some (.long (cond (p_open P i) 1 0))), h)) := by
  show Wx _ _ 0 [(0, .ref (X.1 0)), (1, .int (nI i)), (2, .int (9))] [] h _
  refine x_run 2 (pc' := 2) (lv' := [(0, .ref (X.1 0)), (1, .int (nI i)), (2, .int (9))]) (st' := [.int (nI i), .ref (X.1 0)]) rfl ?_
  refine x_rd (v := .ref (X.1 (100 + i))) (k' := 21) (as := [.ref (X.1 0), .int (nI i)]) (rest := []) (x_isV (np := 1) rfl rfl rfl R.c0 rfl) (c_claimAt R hi) ?_
  refine x_run 2 (pc' := 7) (lv' := [(3, .ref (X.1 (100 + i))), (0, .ref (X.1 0)), (1, .int (nI i)), (2, .int (9))]) (st' := [.int (9)]) rfl ?_
  refine x_step (pc' := 108) (lv' := [(3, .ref (X.1 (100 + i))), (0, .ref (X.1 0)), (1, .int (nI i)), (2, .int (9))]) (st' := []) (h' := h) rfl rfl ?_
  refine x_run 1 (pc' := 109) (lv' := [(3, .ref (X.1 (100 + i))), (0, .ref (X.1 0)), (1, .int (nI i)), (2, .int (9))]) (st' := [.ref (X.1 (100 + i))]) rfl ?_
  refine x_rd (v := .int (bI (p_open P i))) (k' := 40) (as := [.ref (X.1 (100 + i))]) (rest := []) (x_isV (np := 0) rfl rfl rfl (R.cC hi) rfl) (c_open R hi) ?_
  refine x_if (c := bI (p_open P i) = 0) (t := 119) rfl rfl (fun c1 => ?_) (fun c1 => ?_)
  · replace c1 := bI_0.mp c1
    refine x_run 1 (pc' := 120) (lv' := [(3, .ref (X.1 (100 + i))), (0, .ref (X.1 0)), (1, .int (nI i)), (2, .int (9))]) (st' := [.long (0)]) rfl ?_
    refine x_ret (v := some (.long (0))) rfl rfl rfl ?_
    rw [c1]
    rfl
  · replace c1 := bI_n0 c1
    refine x_run 2 (pc' := 120) (lv' := [(3, .ref (X.1 (100 + i))), (0, .ref (X.1 0)), (1, .int (nI i)), (2, .int (9))]) (st' := [.long (1)]) rfl ?_
    refine x_ret (v := some (.long (1))) rfl rfl rfl ?_
    rw [c1]
    rfl
theorem c_toldW (R : Rep (u + 1) v X P M z h) (hi : i < pn P) {w : Int32} (hw : w.toInt < 0 ∨ 9 < w.toInt) : Wx (d + 7) 13 0 (lv_args 0 [.ref (X.1 0), .int (nI i), .int (w)]) [] h (x_th 5 (Rep u v X P M z)) := by
  show Wx _ _ 0 [(0, .ref (X.1 0)), (1, .int (nI i)), (2, .int (w))] [] h _
  refine x_run 2 (pc' := 2) (lv' := [(0, .ref (X.1 0)), (1, .int (nI i)), (2, .int (w))]) (st' := [.int (nI i), .ref (X.1 0)]) rfl ?_
  refine x_rd (v := .ref (X.1 (100 + i))) (k' := 21) (as := [.ref (X.1 0), .int (nI i)]) (rest := []) (x_isV (np := 1) rfl rfl rfl R.c0 rfl) (c_claimAt R hi) ?_
  refine x_run 2 (pc' := 7) (lv' := [(3, .ref (X.1 (100 + i))), (0, .ref (X.1 0)), (1, .int (nI i)), (2, .int (w))]) (st' := [.int (w)]) rfl ?_
  refine x_swd (t := 121) rfl hw rfl ?_
  exact x_throw R rfl rfl rfl rfl rfl rfl rfl rfl (by omega)
theorem c_entry0 (R : Rep u v X P M z h) {e : Nat} (he : e < 3000) (hk : p_keeps P (nI e) = true) : Wx (d + 1) 17 0 (lv_args 0 [.ref (X.1 0), .int (nI e), .int (0)]) [] h (fun r0 => r0 = (.inl (some (.long ((pI P 2 e).toInt64))), h)) := by
  show Wx _ _ 0 [(0, .ref (X.1 0)), (1, .int (nI e)), (2, .int (0))] [] h _
  refine x_run 1 (pc' := 1) (lv' := [(0, .ref (X.1 0)), (1, .int (nI e)), (2, .int (0))]) (st' := [.ref (X.1 0)]) rfl ?_
  refine x_get (v := .ref (X.1 4)) rfl rfl R.c0 rfl ?_
  refine x_run 1 (pc' := 5) (lv' := [(0, .ref (X.1 0)), (1, .int (nI e)), (2, .int (0))]) (st' := [.int (nI e), .ref (X.1 4)]) rfl ?_
  refine x_rd (v := .int (bI (p_keeps P (nI e)))) (k' := 52) (as := [.ref (X.1 4), .int (nI e)]) (rest := []) (x_isV (np := 1) rfl rfl rfl R.c4 rfl) (c_keeps R _) ?_
  refine x_if (c := ¬ bI (p_keeps P (nI e)) = 0) (t := 21) rfl rfl (fun c1 => ?_) (fun c1 => ?_)
  · replace c1 := bI_n0 c1
    refine x_run 1 (pc' := 22) (lv' := [(0, .ref (X.1 0)), (1, .int (nI e)), (2, .int (0))]) (st' := [.int (0)]) rfl ?_
    refine x_step (pc' := 48) (lv' := [(0, .ref (X.1 0)), (1, .int (nI e)), (2, .int (0))]) (st' := []) (h' := h) rfl rfl ?_
    refine x_run 1 (pc' := 49) (lv' := [(0, .ref (X.1 0)), (1, .int (nI e)), (2, .int (0))]) (st' := [.ref (X.1 0)]) rfl ?_
    refine x_get (v := .ref (X.1 4)) rfl rfl R.c0 rfl ?_
    refine x_get (v := .ref (X.1 5)) rfl rfl R.c4 rfl ?_
    refine x_run 1 (pc' := 56) (lv' := [(0, .ref (X.1 0)), (1, .int (nI e)), (2, .int (0))]) (st' := [.int (nI e), .ref (X.1 5)]) rfl ?_
    refine x_iald (j := e) rfl R.c5 (mm_idx_nI (by omega) (by omega)) ?_
    refine x_run 1 (pc' := 58) (lv' := [(0, .ref (X.1 0)), (1, .int (nI e)), (2, .int (0))]) (st' := [.long ((pI P 2 e).toInt64)]) rfl ?_
    exact x_ret (v := some (.long ((pI P 2 e).toInt64))) rfl rfl rfl rfl
  · replace c1 := bI_0.mp (Classical.not_not.mp c1)
    exact absurd (hk.symm.trans c1) (by decide)
theorem c_entry1 (R : Rep u v X P M z h) {e : Nat} (he : e < 3000) (hk : p_keeps P (nI e) = true) : Wx (d + 1) 17 0 (lv_args 0 [.ref (X.1 0), .int (nI e), .int (1)]) [] h (fun r0 => r0 = (.inl (some (.long ((pI P 3 e).toInt64))), h)) := by
  show Wx _ _ 0 [(0, .ref (X.1 0)), (1, .int (nI e)), (2, .int (1))] [] h _
  refine x_run 1 (pc' := 1) (lv' := [(0, .ref (X.1 0)), (1, .int (nI e)), (2, .int (1))]) (st' := [.ref (X.1 0)]) rfl ?_
  refine x_get (v := .ref (X.1 4)) rfl rfl R.c0 rfl ?_
  refine x_run 1 (pc' := 5) (lv' := [(0, .ref (X.1 0)), (1, .int (nI e)), (2, .int (1))]) (st' := [.int (nI e), .ref (X.1 4)]) rfl ?_
  refine x_rd (v := .int (bI (p_keeps P (nI e)))) (k' := 52) (as := [.ref (X.1 4), .int (nI e)]) (rest := []) (x_isV (np := 1) rfl rfl rfl R.c4 rfl) (c_keeps R _) ?_
  refine x_if (c := ¬ bI (p_keeps P (nI e)) = 0) (t := 21) rfl rfl (fun c1 => ?_) (fun c1 => ?_)
  · replace c1 := bI_n0 c1
    refine x_run 1 (pc' := 22) (lv' := [(0, .ref (X.1 0)), (1, .int (nI e)), (2, .int (1))]) (st' := [.int (1)]) rfl ?_
    refine x_step (pc' := 59) (lv' := [(0, .ref (X.1 0)), (1, .int (nI e)), (2, .int (1))]) (st' := []) (h' := h) rfl rfl ?_
    refine x_run 1 (pc' := 60) (lv' := [(0, .ref (X.1 0)), (1, .int (nI e)), (2, .int (1))]) (st' := [.ref (X.1 0)]) rfl ?_
    refine x_get (v := .ref (X.1 4)) rfl rfl R.c0 rfl ?_
    refine x_get (v := .ref (X.1 6)) rfl rfl R.c4 rfl ?_
    refine x_run 1 (pc' := 67) (lv' := [(0, .ref (X.1 0)), (1, .int (nI e)), (2, .int (1))]) (st' := [.int (nI e), .ref (X.1 6)]) rfl ?_
    refine x_iald (j := e) rfl R.c6 (mm_idx_nI (by omega) (by omega)) ?_
    refine x_run 1 (pc' := 69) (lv' := [(0, .ref (X.1 0)), (1, .int (nI e)), (2, .int (1))]) (st' := [.long ((pI P 3 e).toInt64)]) rfl ?_
    exact x_ret (v := some (.long ((pI P 3 e).toInt64))) rfl rfl rfl rfl
  · replace c1 := bI_0.mp (Classical.not_not.mp c1)
    exact absurd (hk.symm.trans c1) (by decide)
theorem c_entry2 (R : Rep u v X P M z h) {e : Nat} (he : e < 3000) (hk : p_keeps P (nI e) = true) : Wx (d + 1) 17 0 (lv_args 0 [.ref (X.1 0), .int (nI e), .int (2)]) [] h (fun r0 => r0 = (.inl (some (.long (pL P 6 e))), h)) := by
  show Wx _ _ 0 [(0, .ref (X.1 0)), (1, .int (nI e)), (2, .int (2))] [] h _
  refine x_run 1 (pc' := 1) (lv' := [(0, .ref (X.1 0)), (1, .int (nI e)), (2, .int (2))]) (st' := [.ref (X.1 0)]) rfl ?_
  refine x_get (v := .ref (X.1 4)) rfl rfl R.c0 rfl ?_
  refine x_run 1 (pc' := 5) (lv' := [(0, .ref (X.1 0)), (1, .int (nI e)), (2, .int (2))]) (st' := [.int (nI e), .ref (X.1 4)]) rfl ?_
  refine x_rd (v := .int (bI (p_keeps P (nI e)))) (k' := 52) (as := [.ref (X.1 4), .int (nI e)]) (rest := []) (x_isV (np := 1) rfl rfl rfl R.c4 rfl) (c_keeps R _) ?_
  refine x_if (c := ¬ bI (p_keeps P (nI e)) = 0) (t := 21) rfl rfl (fun c1 => ?_) (fun c1 => ?_)
  · replace c1 := bI_n0 c1
    refine x_run 1 (pc' := 22) (lv' := [(0, .ref (X.1 0)), (1, .int (nI e)), (2, .int (2))]) (st' := [.int (2)]) rfl ?_
    refine x_step (pc' := 70) (lv' := [(0, .ref (X.1 0)), (1, .int (nI e)), (2, .int (2))]) (st' := []) (h' := h) rfl rfl ?_
    refine x_run 1 (pc' := 71) (lv' := [(0, .ref (X.1 0)), (1, .int (nI e)), (2, .int (2))]) (st' := [.ref (X.1 0)]) rfl ?_
    refine x_get (v := .ref (X.1 4)) rfl rfl R.c0 rfl ?_
    refine x_get (v := .ref (X.1 7)) rfl rfl R.c4 rfl ?_
    refine x_run 1 (pc' := 78) (lv' := [(0, .ref (X.1 0)), (1, .int (nI e)), (2, .int (2))]) (st' := [.int (nI e), .ref (X.1 7)]) rfl ?_
    refine x_lald (j := e) rfl R.c7 (mm_idx_nI (by omega) (by omega)) ?_
    exact x_ret (v := some (.long (pL P 6 e))) rfl rfl rfl rfl
  · replace c1 := bI_0.mp (Classical.not_not.mp c1)
    exact absurd (hk.symm.trans c1) (by decide)
theorem c_entryW (R : Rep (u + 1) v X P M z h) {e : Nat} (he : e < 3000) (hk : p_keeps P (nI e) = true) {w : Int32} (hw : w.toInt < 0 ∨ 2 < w.toInt) : Wx (d + 6) 17 0 (lv_args 0 [.ref (X.1 0), .int (nI e), .int (w)]) [] h (x_th 5 (Rep u v X P M z)) := by
  show Wx _ _ 0 [(0, .ref (X.1 0)), (1, .int (nI e)), (2, .int (w))] [] h _
  refine x_run 1 (pc' := 1) (lv' := [(0, .ref (X.1 0)), (1, .int (nI e)), (2, .int (w))]) (st' := [.ref (X.1 0)]) rfl ?_
  refine x_get (v := .ref (X.1 4)) rfl rfl R.c0 rfl ?_
  refine x_run 1 (pc' := 5) (lv' := [(0, .ref (X.1 0)), (1, .int (nI e)), (2, .int (w))]) (st' := [.int (nI e), .ref (X.1 4)]) rfl ?_
  refine x_rd (v := .int (bI (p_keeps P (nI e)))) (k' := 52) (as := [.ref (X.1 4), .int (nI e)]) (rest := []) (x_isV (np := 1) rfl rfl rfl R.c4 rfl) (c_keeps R _) ?_
  refine x_if (c := ¬ bI (p_keeps P (nI e)) = 0) (t := 21) rfl rfl (fun c1 => ?_) (fun c1 => ?_)
  · replace c1 := bI_n0 c1
    refine x_run 1 (pc' := 22) (lv' := [(0, .ref (X.1 0)), (1, .int (nI e)), (2, .int (w))]) (st' := [.int (w)]) rfl ?_
    refine x_swd (t := 80) rfl hw rfl ?_
    exact x_throw R rfl rfl rfl rfl rfl rfl rfl rfl (by omega)
  · replace c1 := bI_0.mp (Classical.not_not.mp c1)
    exact absurd (hk.symm.trans c1) (by decide)
theorem c_entryX (R : Rep (u + 1) v X P M z h) {q : Int32} (hk : p_keeps P q = false) (w : Int32) : Wx (d + 6) 17 0 (lv_args 0 [.ref (X.1 0), .int (q), .int (w)]) [] h (x_th 7 (Rep u v X P M z)) := by
  show Wx _ _ 0 [(0, .ref (X.1 0)), (1, .int (q)), (2, .int (w))] [] h _
  refine x_run 1 (pc' := 1) (lv' := [(0, .ref (X.1 0)), (1, .int (q)), (2, .int (w))]) (st' := [.ref (X.1 0)]) rfl ?_
  refine x_get (v := .ref (X.1 4)) rfl rfl R.c0 rfl ?_
  refine x_run 1 (pc' := 5) (lv' := [(0, .ref (X.1 0)), (1, .int (q)), (2, .int (w))]) (st' := [.int (q), .ref (X.1 4)]) rfl ?_
  refine x_rd (v := .int (bI (p_keeps P q))) (k' := 52) (as := [.ref (X.1 4), .int (q)]) (rest := []) (x_isV (np := 1) rfl rfl rfl R.c4 rfl) (c_keeps R _) ?_
  refine x_if (c := ¬ bI (p_keeps P q) = 0) (t := 21) rfl rfl (fun c1 => ?_) (fun c1 => ?_)
  · replace c1 := bI_n0 c1
    exact absurd (hk.symm.trans c1) (by decide)
  · replace c1 := bI_0.mp (Classical.not_not.mp c1)
    exact x_throw R rfl rfl rfl rfl rfl rfl rfl rfl (by omega)
end PUB1
