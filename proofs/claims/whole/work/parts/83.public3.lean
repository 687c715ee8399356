section PUB3
variable {u v d : Nat} {X : xX} {P M : pP} {z : zZ} {h : mm_H} {i j : Nat}
def o_claim (P : pP) (r : Nat) (c : Int64) : oO := if g_cents c 1 = false then (5, none, P) else if ¬ pn P < 60 then (8, none, P) else if ¬ pI P 4 0 = 0 then (6, none, P) else (0, some (.int (nI (pn P))), p_claim P r c)
def o_asset (P : pP) : oO := if ¬ pa P < 20 then (8, none, P) else if ¬ pI P 4 0 = 0 then (6, none, P) else (0, some (.int (nI (pa P))), p_asset P)
def o_sec (P : pP) (j c : Nat) (l : Int64) : oO := if g_cents l 1 = false then (5, none, P) else if ¬ pN P 1 j < 4 then (8, none, P) else if ¬ pI P 4 0 = 0 then (6, none, P) else if ¬ pI P 1 j = 0 then (6, none, P) else if p_has P j c (pN P 1 j) 0 = true then (6, none, P) else if pI P 0 c = 2 then (6, none, P) else if p_fresh P c = true then (0, some (.int (nI (pN (p_sec P j c l) 1 j))), sI (p_sec P j c l) 5 c (pI P 5 c + 1)) else (6, none, P)
theorem c_claim (R : Rep (u + 1) v X P M z h) (h0 : X.2.1 = 0) {r : Nat} (hr : r < 8) (hz : Zc P (pn P)) (c : Int64) : Wx (d + 7) 1 0 (lv_args 0 [.ref (X.1 0), .int (nI r), .long (c)]) [] h (pQ (RX u v X M z) (o_claim P r c)) := by
  have n60 := R.n60
  show Wx _ _ 0 [(0, .ref (X.1 0)), (1, .int (nI r)), (2, .long (c))] [] h _
  refine x_run 1 (pc' := 1) (lv' := [(0, .ref (X.1 0)), (1, .int (nI r)), (2, .long (c))]) (st' := [.int (nI r)]) rfl ?_
  refine x_rd0 (k' := 19) (as := [.int (nI r)]) (rest := []) (x_isS (np := 1) rfl rfl rfl rfl rfl) (c_rank R hr) ?_
  refine x_run 2 (pc' := 6) (lv' := [(0, .ref (X.1 0)), (1, .int (nI r)), (2, .long (c))]) (st' := [.long (1), .long (c)]) rfl ?_
  rcases g_two (g_cents c 1) with g1 | g1
  · rw [show o_claim P r c = (5, none, P) from by simp only [o_claim, g1, not_true_eq_false, not_false_eq_true, if_true, if_false, ite_true, ite_false, reduceIte, reduceCtorEq, Classical.not_not]]
    exact x_up (k' := 20) (as := [.long (c), .long (1)]) (rest := []) (x_isS (np := 2) rfl rfl rfl rfl rfl) rfl (c_centsX R g1) (fun r e => pQ_x (by decide) (e.imp fun a q => ⟨q.1, RX.of (q.2.less (by omega) (Nat.le_refl _))⟩))
  refine x_rd0 (k' := 20) (as := [.long (c), .long (1)]) (rest := []) (x_isS (np := 2) rfl rfl rfl rfl rfl) (c_cents R g1) ?_
  refine x_run 1 (pc' := 10) (lv' := [(0, .ref (X.1 0)), (1, .int (nI r)), (2, .long (c))]) (st' := [.ref (X.1 0)]) rfl ?_
  refine x_get (v := .int (nI (pn P))) rfl rfl R.c0 rfl ?_
  refine x_run 1 (pc' := 15) (lv' := [(0, .ref (X.1 0)), (1, .int (nI r)), (2, .long (c))]) (st' := [.int (60), .int (nI (pn P))]) rfl ?_
  refine x_if (c := nI (pn P) < nI 60) (t := 28) rfl rfl (fun c2 => ?_) (fun c2 => ?_)
  · replace c2 := (nI_ltI (by omega) (by omega)).mp c2
    refine x_run 1 (pc' := 29) (lv' := [(0, .ref (X.1 0)), (1, .int (nI r)), (2, .long (c))]) (st' := [.ref (X.1 0)]) rfl ?_
    by_cases g3 : ¬ pI P 4 0 = 0
    · rw [show o_claim P r c = (6, none, P) from by simp only [o_claim, g1, c2, g3, not_true_eq_false, not_false_eq_true, if_true, if_false, ite_true, ite_false, reduceIte, reduceCtorEq, Classical.not_not]]
      exact x_up (k' := 18) (as := [.ref (X.1 0)]) (rest := []) (x_isV (np := 0) rfl rfl rfl R.c0 rfl) rfl (c_liveX R g3) (fun r e => pQ_x (by decide) (e.imp fun a q => ⟨q.1, RX.of (q.2.less (by omega) (Nat.le_refl _))⟩))
    refine x_rd0 (k' := 18) (as := [.ref (X.1 0)]) (rest := []) (x_isV (np := 0) rfl rfl rfl R.c0 rfl) (c_live R (Classical.not_not.mp g3)) ?_
    refine x_run 1 (pc' := 33) (lv' := [(0, .ref (X.1 0)), (1, .int (nI r)), (2, .long (c))]) (st' := [.ref (X.1 0)]) rfl ?_
    refine x_get (v := .int (nI (pn P))) rfl rfl R.c0 rfl ?_
    refine x_run 2 (pc' := 39) (lv' := [(4, .int (nI (pn P))), (0, .ref (X.1 0)), (1, .int (nI r)), (2, .long (c))]) (st' := [.ref (X.1 0)]) rfl ?_
    refine x_get (v := .ref (X.1 1)) rfl rfl R.c0 rfl ?_
    refine x_run 1 (pc' := 44) (lv' := [(4, .int (nI (pn P))), (0, .ref (X.1 0)), (1, .int (nI r)), (2, .long (c))]) (st' := [.int (nI (pn P)), .ref (X.1 1)]) rfl ?_
    rw [show o_claim P r c = (0, some (.int (nI (pn P))), p_claim P r c) from by simp only [o_claim, g1, c2, g3, not_true_eq_false, not_false_eq_true, if_true, if_false, ite_true, ite_false, reduceIte, reduceCtorEq, Classical.not_not]]
    refine x_lv (a := [(4, .int (nI (pn P))), (0, .ref (X.1 0)), (1, .int (nI r)), (2, .long (c))]) rfl rfl ⟨rfl, rfl, rfl, rfl, trivial⟩ ?_
    exact (t_claim R h0 (by omega) hr hz c).mono (fun r0 e => e)
  · replace c2 := mt (nI_ltI (by omega) (by omega)).mpr c2
    rw [show o_claim P r c = (8, none, P) from by simp only [o_claim, g1, c2, not_true_eq_false, not_false_eq_true, if_true, if_false, ite_true, ite_false, reduceIte, reduceCtorEq, Classical.not_not]]
    exact pQ_th (A := RX u v X M z) ((x_throw (R.less (u' := u + 1) (by omega) (Nat.le_refl _)) rfl rfl rfl rfl rfl rfl rfl rfl (by omega)).mono (fun _ e => e.imp fun a q => ⟨q.1, RX.of q.2⟩)) (by decide)
theorem c_sec (R : Rep (u + 1) v X P M z h) (hj : j < pa P) (hi : i < pn P) (l : Int64) : Wx (d + 7) 4 0 (lv_args 0 [.ref (X.1 0), .int (nI j), .int (nI i), .long (l)]) [] h (pQ (RP u v X M z) (o_sec P j i l)) := by
  have mn := R.wP.mn hj
  show Wx _ _ 0 [(0, .ref (X.1 0)), (1, .int (nI j)), (2, .int (nI i)), (3, .long (l))] [] h _
  refine x_run 2 (pc' := 2) (lv' := [(0, .ref (X.1 0)), (1, .int (nI j)), (2, .int (nI i)), (3, .long (l))]) (st' := [.int (nI j), .ref (X.1 0)]) rfl ?_
  refine x_rd (v := .ref (X.1 (200 + j))) (k' := 22) (as := [.ref (X.1 0), .int (nI j)]) (rest := []) (x_isV (np := 1) rfl rfl rfl R.c0 rfl) (c_assetAt R hj) ?_
  refine x_run 3 (pc' := 9) (lv' := [(5, .ref (X.1 (200 + j))), (0, .ref (X.1 0)), (1, .int (nI j)), (2, .int (nI i)), (3, .long (l))]) (st' := [.int (nI i), .ref (X.1 0)]) rfl ?_
  refine x_rd (v := .ref (X.1 (100 + i))) (k' := 21) (as := [.ref (X.1 0), .int (nI i)]) (rest := []) (x_isV (np := 1) rfl rfl rfl R.c0 rfl) (c_claimAt R hi) ?_
  refine x_run 3 (pc' := 16) (lv' := [(6, .ref (X.1 (100 + i))), (5, .ref (X.1 (200 + j))), (0, .ref (X.1 0)), (1, .int (nI j)), (2, .int (nI i)), (3, .long (l))]) (st' := [.long (1), .long (l)]) rfl ?_
  rcases g_two (g_cents l 1) with g1 | g1
  · rw [show o_sec P j i l = (5, none, P) from by simp only [o_sec, g1, not_true_eq_false, not_false_eq_true, if_true, if_false, ite_true, ite_false, reduceIte, reduceCtorEq, Classical.not_not]]
    exact x_up (k' := 20) (as := [.long (l), .long (1)]) (rest := []) (x_isS (np := 2) rfl rfl rfl rfl rfl) rfl (c_centsX R g1) (fun r e => pQ_x (by decide) (e.imp fun a q => ⟨q.1, q.2.less (Nat.le_refl _) (by omega)⟩))
  refine x_rd0 (k' := 20) (as := [.long (l), .long (1)]) (rest := []) (x_isS (np := 2) rfl rfl rfl rfl rfl) (c_cents R g1) ?_
  refine x_run 1 (pc' := 21) (lv' := [(6, .ref (X.1 (100 + i))), (5, .ref (X.1 (200 + j))), (0, .ref (X.1 0)), (1, .int (nI j)), (2, .int (nI i)), (3, .long (l))]) (st' := [.ref (X.1 (200 + j))]) rfl ?_
  refine x_get (v := .int (nI (pN P 1 j))) rfl rfl (R.cA hj) rfl ?_
  refine x_run 1 (pc' := 25) (lv' := [(6, .ref (X.1 (100 + i))), (5, .ref (X.1 (200 + j))), (0, .ref (X.1 0)), (1, .int (nI j)), (2, .int (nI i)), (3, .long (l))]) (st' := [.int (4), .int (nI (pN P 1 j))]) rfl ?_
  refine x_if (c := nI (pN P 1 j) < nI 4) (t := 38) rfl rfl (fun c2 => ?_) (fun c2 => ?_)
  · replace c2 := (nI_ltI (by omega) (by omega)).mp c2
    refine x_run 1 (pc' := 39) (lv' := [(6, .ref (X.1 (100 + i))), (5, .ref (X.1 (200 + j))), (0, .ref (X.1 0)), (1, .int (nI j)), (2, .int (nI i)), (3, .long (l))]) (st' := [.ref (X.1 0)]) rfl ?_
    by_cases g3 : ¬ pI P 4 0 = 0
    · rw [show o_sec P j i l = (6, none, P) from by simp only [o_sec, g1, c2, g3, not_true_eq_false, not_false_eq_true, if_true, if_false, ite_true, ite_false, reduceIte, reduceCtorEq, Classical.not_not]]
      exact x_up (k' := 18) (as := [.ref (X.1 0)]) (rest := []) (x_isV (np := 0) rfl rfl rfl R.c0 rfl) rfl (c_liveX R g3) (fun r e => pQ_x (by decide) (e.imp fun a q => ⟨q.1, q.2.less (Nat.le_refl _) (by omega)⟩))
    refine x_rd0 (k' := 18) (as := [.ref (X.1 0)]) (rest := []) (x_isV (np := 0) rfl rfl rfl R.c0 rfl) (c_live R (Classical.not_not.mp g3)) ?_
    refine x_run 1 (pc' := 44) (lv' := [(6, .ref (X.1 (100 + i))), (5, .ref (X.1 (200 + j))), (0, .ref (X.1 0)), (1, .int (nI j)), (2, .int (nI i)), (3, .long (l))]) (st' := [.ref (X.1 (200 + j))]) rfl ?_
    refine x_get (v := .int (pI P 1 j)) rfl rfl (R.cA hj) rfl ?_
    refine x_if (c := ¬ pI P 1 j = 0) (t := 77) rfl rfl (fun c4 => ?_) (fun c4 => ?_)
    · rw [show o_sec P j i l = (6, none, P) from by simp only [o_sec, g1, c2, g3, c4, not_true_eq_false, not_false_eq_true, if_true, if_false, ite_true, ite_false, reduceIte, reduceCtorEq, Classical.not_not]]
      exact pQ_th (x_throw (R.less (v' := v) (Nat.le_refl _) (by omega)) rfl rfl rfl rfl rfl rfl rfl rfl (by omega)) (by decide)
    · refine x_run 2 (pc' := 54) (lv' := [(6, .ref (X.1 (100 + i))), (5, .ref (X.1 (200 + j))), (0, .ref (X.1 0)), (1, .int (nI j)), (2, .int (nI i)), (3, .long (l))]) (st' := [.ref (X.1 (100 + i)), .ref (X.1 (200 + j))]) rfl ?_
      refine x_rd (v := .int (bI (p_has P j i (pN P 1 j) 0))) (k' := 48) (as := [.ref (X.1 (200 + j)), .ref (X.1 (100 + i))]) (rest := []) (x_isV (np := 1) rfl rfl rfl (R.cA hj) rfl) (c_secures R hj hi) ?_
      refine x_if (c := ¬ bI (p_has P j i (pN P 1 j) 0) = 0) (t := 77) rfl rfl (fun c5 => ?_) (fun c5 => ?_)
      · replace c5 := bI_n0 c5
        rw [show o_sec P j i l = (6, none, P) from by simp only [o_sec, g1, c2, g3, c4, c5, not_true_eq_false, not_false_eq_true, if_true, if_false, ite_true, ite_false, reduceIte, reduceCtorEq, Classical.not_not]]
        exact pQ_th (x_throw (R.less (v' := v) (Nat.le_refl _) (by omega)) rfl rfl rfl rfl rfl rfl rfl rfl (by omega)) (by decide)
      · replace c5 := bI_0.mp (Classical.not_not.mp c5)
        refine x_run 1 (pc' := 62) (lv' := [(6, .ref (X.1 (100 + i))), (5, .ref (X.1 (200 + j))), (0, .ref (X.1 0)), (1, .int (nI j)), (2, .int (nI i)), (3, .long (l))]) (st' := [.ref (X.1 (100 + i))]) rfl ?_
        refine x_get (v := .int (pI P 0 i)) rfl rfl (R.cC hi) rfl ?_
        refine x_run 1 (pc' := 66) (lv' := [(6, .ref (X.1 (100 + i))), (5, .ref (X.1 (200 + j))), (0, .ref (X.1 0)), (1, .int (nI j)), (2, .int (nI i)), (3, .long (l))]) (st' := [.int (2), .int (pI P 0 i)]) rfl ?_
        refine x_if (c := pI P 0 i = 2) (t := 77) rfl rfl (fun c6 => ?_) (fun c6 => ?_)
        · rw [show o_sec P j i l = (6, none, P) from by simp only [o_sec, g1, c2, g3, c4, c5, c6, not_true_eq_false, not_false_eq_true, if_true, if_false, ite_true, ite_false, reduceIte, reduceCtorEq, Classical.not_not]]
          exact pQ_th (x_throw (R.less (v' := v) (Nat.le_refl _) (by omega)) rfl rfl rfl rfl rfl rfl rfl rfl (by omega)) (by decide)
        · refine x_run 1 (pc' := 71) (lv' := [(6, .ref (X.1 (100 + i))), (5, .ref (X.1 (200 + j))), (0, .ref (X.1 0)), (1, .int (nI j)), (2, .int (nI i)), (3, .long (l))]) (st' := [.ref (X.1 (100 + i))]) rfl ?_
          refine x_rd (v := .int (bI (p_fresh P i))) (k' := 41) (as := [.ref (X.1 (100 + i))]) (rest := []) (x_isV (np := 0) rfl rfl rfl (R.cC hi) rfl) (c_fresh R hi) ?_
          refine x_if (c := ¬ bI (p_fresh P i) = 0) (t := 87) rfl rfl (fun c7 => ?_) (fun c7 => ?_)
          · replace c7 := bI_n0 c7
            refine x_run 3 (pc' := 92) (lv' := [(6, .ref (X.1 (100 + i))), (5, .ref (X.1 (200 + j))), (0, .ref (X.1 0)), (1, .int (nI j)), (2, .int (nI i)), (3, .long (l))]) (st' := [.long (l), .ref (X.1 (100 + i)), .ref (X.1 (200 + j))]) rfl ?_
            refine x_wr0 (A := Rep (u + 1) v X (p_sec P j i l) M z) (k' := 47) (as := [.ref (X.1 (200 + j)), .ref (X.1 (100 + i)), .long (l)]) (rest := []) (x_isV (np := 2) rfl rfl rfl (R.cA hj) rfl) (c_addS R hj (by omega) hi _) (fun h R => ?_)
            refine x_run 2 (pc' := 98) (lv' := [(6, .ref (X.1 (100 + i))), (5, .ref (X.1 (200 + j))), (0, .ref (X.1 0)), (1, .int (nI j)), (2, .int (nI i)), (3, .long (l))]) (st' := [.ref (X.1 (100 + i)), .ref (X.1 (100 + i))]) rfl ?_
            refine x_get (v := .int (pI P 5 i)) rfl rfl (R.cC hi) rfl ?_
            refine x_run 2 (pc' := 103) (lv' := [(6, .ref (X.1 (100 + i))), (5, .ref (X.1 (200 + j))), (0, .ref (X.1 0)), (1, .int (nI j)), (2, .int (nI i)), (3, .long (l))]) (st' := [.int ((pI P 5 i) + 1), .ref (X.1 (100 + i))]) rfl ?_
            refine x_put rfl rfl (R.cC hi) rfl ?_
            refine gen_h (A := Rep (u + 1) v X (sI (p_sec P j i l) 5 i ((pI P 5 i) + 1)) M z) (R.uUnre hi _) (fun h R => ?_)
            refine x_run 1 (pc' := 108) (lv' := [(6, .ref (X.1 (100 + i))), (5, .ref (X.1 (200 + j))), (0, .ref (X.1 0)), (1, .int (nI j)), (2, .int (nI i)), (3, .long (l))]) (st' := [.ref (X.1 (200 + j))]) rfl ?_
            refine x_get (v := .int (nI (pN (p_sec P j i l) 1 j))) rfl rfl (R.cA hj) rfl ?_
            rw [show o_sec P j i l = (0, some (.int (nI (pN (p_sec P j i l) 1 j))), sI (p_sec P j i l) 5 i ((pI P 5 i) + 1)) from by simp only [o_sec, g1, c2, g3, c4, c5, c6, c7, not_true_eq_false, not_false_eq_true, if_true, if_false, ite_true, ite_false, reduceIte, reduceCtorEq, Classical.not_not]]
            exact x_ret (v := some (.int (nI (pN (p_sec P j i l) 1 j)))) rfl rfl rfl (pQ_0 (R.less (by omega) (by omega)))
          · replace c7 := bI_0.mp (Classical.not_not.mp c7)
            rw [show o_sec P j i l = (6, none, P) from by simp only [o_sec, g1, c2, g3, c4, c5, c6, c7, not_true_eq_false, not_false_eq_true, if_true, if_false, ite_true, ite_false, reduceIte, reduceCtorEq, Classical.not_not]]
            exact pQ_th (x_throw (R.less (v' := v) (Nat.le_refl _) (by omega)) rfl rfl rfl rfl rfl rfl rfl rfl (by omega)) (by decide)
  · replace c2 := mt (nI_ltI (by omega) (by omega)).mpr c2
    rw [show o_sec P j i l = (8, none, P) from by simp only [o_sec, g1, c2, not_true_eq_false, not_false_eq_true, if_true, if_false, ite_true, ite_false, reduceIte, reduceCtorEq, Classical.not_not]]
    exact pQ_th (x_throw (R.less (v' := v) (Nat.le_refl _) (by omega)) rfl rfl rfl rfl rfl rfl rfl rfl (by omega)) (by decide)
end PUB3
