section MOD3
variable {u v d : Nat} {X : xX} {P M : pP} {z : zZ} {h : mm_H} {i j : Nat}
theorem wf_rank {r : Nat} (w : wf v P) (hr : r < 8) : wf v (sN P 0 (pn P) r) := by
  refine ⟨w.1, w.2.1, w.2.2.1, fun q hq => ?_, w.2.2.2.2.1, w.2.2.2.2.2.1, w.2.2.2.2.2.2⟩
  show s2 P.2.1 0 (pn P) r 0 q < 8
  by_cases e : q = pn P
  · rw [e, s2_self]; exact hr
  · rw [s2_i _ _ _ _ e]
    exact w.rk hq
theorem wf_hold {q c : Nat} (w : wf v P) (hc : c < pn P) : wf v (sN P 2 q c) := by
  refine ⟨w.1, w.2.1, w.2.2.1, w.2.2.2.1, w.2.2.2.2.1, fun j hj k hk => ?_, w.2.2.2.2.2.2⟩
  show s2 P.2.1 2 q c 2 (4 * j + k) < pn P
  by_cases e : 4 * j + k = q
  · rw [e, s2_self]; exact hc
  · rw [s2_i _ _ _ _ e]
    exact w.hd hj hk
/-- the reference does not keep how many securities of a claim are not realised -/
theorem ct_gh (X : xX) (P M : pP) (z : zZ) (i : Nat) (x : Int32) (t : Nat) : ct X P (sI M 5 i x) z t = ct X P M z t := by
  have e : ct0 X P (sI M 5 i x) z = ct0 X P M z := rfl
  unfold ct
  rw [e]
theorem Rep.gh (R : Rep u v X P M z h) (i : Nat) (x : Int32) : Rep u v X P (sI M 5 i x) z h := by
  refine ⟨fun t ht => ?_, R.2.1, R.2.2.1, R.wP, R.wM, R.2.2.2.2.2⟩
  rw [ct_gh]
  exact R.1 t ht
theorem k_owes (R : Rep u v X P M z h) (hi : i < pn M) (n : Int64) : Wx (d + 3) 71 0 (lv_args 0 [.ref (X.1 8), .int (nI i), .long (n)]) [] h (mQ u v X P z (mo (cd 7 5 6) (some (.long 0)) (o_owes M i n))) := by
  have m60 := R.m60
  show Wx _ _ 0 [(0, .ref (X.1 8)), (1, .int (nI i)), (2, .long (n))] [] h _
  refine x_run 3 (pc' := 3) (lv' := [(0, .ref (X.1 8)), (1, .int (nI i)), (2, .long (n))]) (st' := [.int (nI i), .ref (X.1 8), .ref (X.1 8)]) rfl ?_
  refine x_rd (v := .int (bI (true))) (k' := 56) (as := [.ref (X.1 8), .int (nI i)]) (rest := [.ref (X.1 8)]) (x_isV (np := 1) rfl rfl rfl R.c8 rfl) (k_isCt R hi) ?_
  refine x_if (c := ¬ bI (true) = 0) (t := 13) rfl rfl (fun c1 => ?_) (fun c1 => ?_)
  · replace c1 := bI_n0 c1
    refine x_run 2 (pc' := 15) (lv' := [(0, .ref (X.1 8)), (1, .int (nI i)), (2, .long (n))]) (st' := [.long (0), .long (n), .ref (X.1 8)]) rfl ?_
    refine x_ldc2 (x := 400000000) rfl rfl ?_
    refine x_rd (v := .int (bI (g_cents n 0))) (k' := 55) (as := [.long (n), .long (0), .long (400000000)]) (rest := [.ref (X.1 8)]) (x_isS (np := 3) rfl rfl rfl rfl rfl) (k_in _ _ _) ?_
    refine x_if (c := ¬ bI (g_cents n 0) = 0) (t := 28) rfl rfl (fun c2 => ?_) (fun c2 => ?_)
    · replace c2 := bI_n0 c2
      refine x_run 1 (pc' := 29) (lv' := [(0, .ref (X.1 8)), (1, .int (nI i)), (2, .long (n))]) (st' := [.ref (X.1 8), .ref (X.1 8)]) rfl ?_
      refine x_get (v := .int (pI M 4 0)) rfl rfl R.c8 rfl ?_
      refine x_if (c := ¬ pI M 4 0 = 0) (t := 53) rfl rfl (fun c3 => ?_) (fun c3 => ?_)
      · refine x_run 2 (pc' := 58) (lv' := [(0, .ref (X.1 8)), (1, .int (nI i)), (2, .long (n))]) (st' := [.int (3), .ref (X.1 8)]) rfl ?_
        refine x_put rfl rfl R.c8 rfl ?_
        refine gen_h (A := Rep u v X P M ((3, z.2))) (R.mCode _) (fun h R => ?_)
        refine x_run 1 (pc' := 62) (lv' := [(0, .ref (X.1 8)), (1, .int (nI i)), (2, .long (n))]) (st' := [.ref (X.1 8)]) rfl ?_
        refine x_get (v := .int (3)) rfl rfl R.c8 rfl ?_
        refine x_if (c := nI 3 ≤ nI 0) (t := 70) rfl rfl (fun c4 => ?_) (fun c4 => ?_)
        · replace c4 := (nI_leI (by omega) (by omega)).mp c4
          omega
        · replace c4 := mt (nI_leI (by omega) (by omega)).mpr c4
          refine x_run 1 (pc' := 69) (lv' := [(0, .ref (X.1 8)), (1, .int (nI i)), (2, .long (n))]) (st' := [.long (0)]) rfl ?_
          rw [show o_owes M i n = (6, none, M) from by simp only [o_owes, c2, c3, not_true_eq_false, not_false_eq_true, if_true, if_false, ite_true, ite_false, reduceIte, reduceCtorEq, Classical.not_not, Bool.false_eq_true]]
          exact x_ret (v := some (.long (0))) rfl rfl rfl ⟨rfl, _, fun _ => rfl, R.less (by omega) (by omega)⟩
      · replace c3 := Classical.not_not.mp c3
        refine x_run 1 (pc' := 36) (lv' := [(0, .ref (X.1 8)), (1, .int (nI i)), (2, .long (n))]) (st' := [.ref (X.1 8), .ref (X.1 8)]) rfl ?_
        refine x_get (v := .ref (X.1 15)) rfl rfl R.c8 rfl ?_
        refine x_run 1 (pc' := 40) (lv' := [(0, .ref (X.1 8)), (1, .int (nI i)), (2, .long (n))]) (st' := [.int (nI i), .ref (X.1 15), .ref (X.1 8)]) rfl ?_
        refine x_iald (j := i) rfl R.c15 (mm_idx_nI (by omega) (by omega)) ?_
        refine x_run 1 (pc' := 42) (lv' := [(0, .ref (X.1 8)), (1, .int (nI i)), (2, .long (n))]) (st' := [.int (2), .int (pI M 0 i), .ref (X.1 8)]) rfl ?_
        refine x_if (c := pI M 0 i = 2) (t := 53) rfl rfl (fun c5 => ?_) (fun c5 => ?_)
        · refine x_run 2 (pc' := 58) (lv' := [(0, .ref (X.1 8)), (1, .int (nI i)), (2, .long (n))]) (st' := [.int (3), .ref (X.1 8)]) rfl ?_
          refine x_put rfl rfl R.c8 rfl ?_
          refine gen_h (A := Rep u v X P M ((3, z.2))) (R.mCode _) (fun h R => ?_)
          refine x_run 1 (pc' := 62) (lv' := [(0, .ref (X.1 8)), (1, .int (nI i)), (2, .long (n))]) (st' := [.ref (X.1 8)]) rfl ?_
          refine x_get (v := .int (3)) rfl rfl R.c8 rfl ?_
          refine x_if (c := nI 3 ≤ nI 0) (t := 70) rfl rfl (fun c6 => ?_) (fun c6 => ?_)
          · replace c6 := (nI_leI (by omega) (by omega)).mp c6
            omega
          · replace c6 := mt (nI_leI (by omega) (by omega)).mpr c6
            refine x_run 1 (pc' := 69) (lv' := [(0, .ref (X.1 8)), (1, .int (nI i)), (2, .long (n))]) (st' := [.long (0)]) rfl ?_
            rw [show o_owes M i n = (6, none, M) from by simp only [o_owes, c2, c3, c5, not_true_eq_false, not_false_eq_true, if_true, if_false, ite_true, ite_false, reduceIte, reduceCtorEq, Classical.not_not, Bool.false_eq_true]]
            exact x_ret (v := some (.long (0))) rfl rfl rfl ⟨rfl, _, fun _ => rfl, R.less (by omega) (by omega)⟩
        · refine x_run 2 (pc' := 47) (lv' := [(0, .ref (X.1 8)), (1, .int (nI i)), (2, .long (n))]) (st' := [.int (nI i), .ref (X.1 8), .ref (X.1 8)]) rfl ?_
          refine x_rd (v := .int (bI (p_fresh M i))) (k' := 63) (as := [.ref (X.1 8), .int (nI i)]) (rest := [.ref (X.1 8)]) (x_isV (np := 1) rfl rfl rfl R.c8 rfl) (k_fresh R hi) ?_
          refine x_if (c := ¬ bI (p_fresh M i) = 0) (t := 57) rfl rfl (fun c7 => ?_) (fun c7 => ?_)
          · replace c7 := bI_n0 c7
            refine x_run 1 (pc' := 58) (lv' := [(0, .ref (X.1 8)), (1, .int (nI i)), (2, .long (n))]) (st' := [.int (0), .ref (X.1 8)]) rfl ?_
            refine x_put rfl rfl R.c8 rfl ?_
            refine gen_h (A := Rep u v X P M ((0, z.2))) (R.mCode _) (fun h R => ?_)
            refine x_run 1 (pc' := 62) (lv' := [(0, .ref (X.1 8)), (1, .int (nI i)), (2, .long (n))]) (st' := [.ref (X.1 8)]) rfl ?_
            refine x_get (v := .int (0)) rfl rfl R.c8 rfl ?_
            refine x_if (c := nI 0 ≤ nI 0) (t := 70) rfl rfl (fun c8 => ?_) (fun c8 => ?_)
            · replace c8 := (nI_leI (by omega) (by omega)).mp c8
              refine x_run 1 (pc' := 71) (lv' := [(0, .ref (X.1 8)), (1, .int (nI i)), (2, .long (n))]) (st' := [.ref (X.1 8)]) rfl ?_
              refine x_get (v := .ref (X.1 11)) rfl rfl R.c8 rfl ?_
              refine x_run 2 (pc' := 76) (lv' := [(0, .ref (X.1 8)), (1, .int (nI i)), (2, .long (n))]) (st' := [.int (nI i), .ref (X.1 11), .int (nI i), .ref (X.1 11)]) rfl ?_
              refine x_lald (j := i) rfl R.c11 (mm_idx_nI (by omega) (by omega)) ?_
              refine x_run 2 (pc' := 79) (lv' := [(0, .ref (X.1 8)), (1, .int (nI i)), (2, .long (n))]) (st' := [.long ((pL M 1 i) + n), .int (nI i), .ref (X.1 11)]) rfl ?_
              refine x_last (j := i) rfl R.c11 (mm_idx_nI (by omega) (by omega)) ?_
              refine gen_h (A := Rep u v X P (sL M 1 i ((pL M 1 i) + n)) ((0, z.2))) (R.mDebt _) (fun h R => ?_)
              refine x_run 1 (pc' := 81) (lv' := [(0, .ref (X.1 8)), (1, .int (nI i)), (2, .long (n))]) (st' := [.ref (X.1 8)]) rfl ?_
              refine x_get (v := .ref (X.1 11)) rfl rfl R.c8 rfl ?_
              refine x_run 1 (pc' := 85) (lv' := [(0, .ref (X.1 8)), (1, .int (nI i)), (2, .long (n))]) (st' := [.int (nI i), .ref (X.1 11)]) rfl ?_
              refine x_lald (j := i) rfl R.c11 (mm_idx_nI (by omega) (by omega)) ?_
              rw [show o_owes M i n = (0, some (.long (pL (sL M 1 i ((pL M 1 i) + n)) 1 i)), sL M 1 i ((pL M 1 i) + n)) from by simp only [o_owes, c2, c3, c5, c7, not_true_eq_false, not_false_eq_true, if_true, if_false, ite_true, ite_false, reduceIte, reduceCtorEq, Classical.not_not, Bool.false_eq_true]]
              exact x_ret (v := some (.long (pL (sL M 1 i ((pL M 1 i) + n)) 1 i))) rfl rfl rfl ⟨rfl, _, fun _ => rfl, R.less (by omega) (by omega)⟩
            · replace c8 := mt (nI_leI (by omega) (by omega)).mpr c8
              omega
          · replace c7 := bI_0.mp (Classical.not_not.mp c7)
            refine x_run 2 (pc' := 58) (lv' := [(0, .ref (X.1 8)), (1, .int (nI i)), (2, .long (n))]) (st' := [.int (3), .ref (X.1 8)]) rfl ?_
            refine x_put rfl rfl R.c8 rfl ?_
            refine gen_h (A := Rep u v X P M ((3, z.2))) (R.mCode _) (fun h R => ?_)
            refine x_run 1 (pc' := 62) (lv' := [(0, .ref (X.1 8)), (1, .int (nI i)), (2, .long (n))]) (st' := [.ref (X.1 8)]) rfl ?_
            refine x_get (v := .int (3)) rfl rfl R.c8 rfl ?_
            refine x_if (c := nI 3 ≤ nI 0) (t := 70) rfl rfl (fun c9 => ?_) (fun c9 => ?_)
            · replace c9 := (nI_leI (by omega) (by omega)).mp c9
              omega
            · replace c9 := mt (nI_leI (by omega) (by omega)).mpr c9
              refine x_run 1 (pc' := 69) (lv' := [(0, .ref (X.1 8)), (1, .int (nI i)), (2, .long (n))]) (st' := [.long (0)]) rfl ?_
              rw [show o_owes M i n = (6, none, M) from by simp only [o_owes, c2, c3, c5, c7, not_true_eq_false, not_false_eq_true, if_true, if_false, ite_true, ite_false, reduceIte, reduceCtorEq, Classical.not_not, Bool.false_eq_true]]
              exact x_ret (v := some (.long (0))) rfl rfl rfl ⟨rfl, _, fun _ => rfl, R.less (by omega) (by omega)⟩
    · replace c2 := bI_0.mp (Classical.not_not.mp c2)
      refine x_run 2 (pc' := 58) (lv' := [(0, .ref (X.1 8)), (1, .int (nI i)), (2, .long (n))]) (st' := [.int (2), .ref (X.1 8)]) rfl ?_
      refine x_put rfl rfl R.c8 rfl ?_
      refine gen_h (A := Rep u v X P M ((2, z.2))) (R.mCode _) (fun h R => ?_)
      refine x_run 1 (pc' := 62) (lv' := [(0, .ref (X.1 8)), (1, .int (nI i)), (2, .long (n))]) (st' := [.ref (X.1 8)]) rfl ?_
      refine x_get (v := .int (2)) rfl rfl R.c8 rfl ?_
      refine x_if (c := nI 2 ≤ nI 0) (t := 70) rfl rfl (fun c10 => ?_) (fun c10 => ?_)
      · replace c10 := (nI_leI (by omega) (by omega)).mp c10
        omega
      · replace c10 := mt (nI_leI (by omega) (by omega)).mpr c10
        refine x_run 1 (pc' := 69) (lv' := [(0, .ref (X.1 8)), (1, .int (nI i)), (2, .long (n))]) (st' := [.long (0)]) rfl ?_
        rw [show o_owes M i n = (5, none, M) from by simp only [o_owes, c2, not_true_eq_false, not_false_eq_true, if_true, if_false, ite_true, ite_false, reduceIte, reduceCtorEq, Classical.not_not, Bool.false_eq_true]]
        exact x_ret (v := some (.long (0))) rfl rfl rfl ⟨rfl, _, fun _ => rfl, R.less (by omega) (by omega)⟩
  · replace c1 := bI_0.mp (Classical.not_not.mp c1)
    cases c1
theorem k_owesX (R : Rep u v X P M z h) {q : Int32} (hq : q < 0 ∨ nI (pn M) ≤ q) (n : Int64) : Wx (d + 3) 71 0 (lv_args 0 [.ref (X.1 8), .int (q), .long (n)]) [] h (mQ u v X P z (1, (some (.long 0)), M)) := by
  show Wx _ _ 0 [(0, .ref (X.1 8)), (1, .int (q)), (2, .long (n))] [] h _
  refine x_run 3 (pc' := 3) (lv' := [(0, .ref (X.1 8)), (1, .int (q)), (2, .long (n))]) (st' := [.int (q), .ref (X.1 8), .ref (X.1 8)]) rfl ?_
  refine x_rd (v := .int (bI (false))) (k' := 56) (as := [.ref (X.1 8), .int (q)]) (rest := [.ref (X.1 8)]) (x_isV (np := 1) rfl rfl rfl R.c8 rfl) (k_isCf R hq) ?_
  refine x_if (c := ¬ bI (false) = 0) (t := 13) rfl rfl (fun c1 => ?_) (fun c1 => ?_)
  · replace c1 := bI_n0 c1
    cases c1
  · replace c1 := bI_0.mp (Classical.not_not.mp c1)
    refine x_run 2 (pc' := 58) (lv' := [(0, .ref (X.1 8)), (1, .int (q)), (2, .long (n))]) (st' := [.int (1), .ref (X.1 8)]) rfl ?_
    refine x_put rfl rfl R.c8 rfl ?_
    refine gen_h (A := Rep u v X P M ((1, z.2))) (R.mCode _) (fun h R => ?_)
    refine x_run 1 (pc' := 62) (lv' := [(0, .ref (X.1 8)), (1, .int (q)), (2, .long (n))]) (st' := [.ref (X.1 8)]) rfl ?_
    refine x_get (v := .int (1)) rfl rfl R.c8 rfl ?_
    refine x_if (c := nI 1 ≤ nI 0) (t := 70) rfl rfl (fun c2 => ?_) (fun c2 => ?_)
    · replace c2 := (nI_leI (by omega) (by omega)).mp c2
      omega
    · replace c2 := mt (nI_leI (by omega) (by omega)).mpr c2
      refine x_run 1 (pc' := 69) (lv' := [(0, .ref (X.1 8)), (1, .int (q)), (2, .long (n))]) (st' := [.long (0)]) rfl ?_
      exact x_ret (v := some (.long (0))) rfl rfl rfl ⟨rfl, _, fun _ => rfl, R⟩
theorem k_contest (R : Rep u v X P M z h) (hi : i < pn M) : Wx (d + 3) 76 0 (lv_args 0 [.ref (X.1 8), .int (nI i)]) [] h (mQ u v X P z (mo (cd 7 6 99) none (o_contest M i))) := by
  have m60 := R.m60
  show Wx _ _ 0 [(0, .ref (X.1 8)), (1, .int (nI i))] [] h _
  refine x_run 3 (pc' := 3) (lv' := [(0, .ref (X.1 8)), (1, .int (nI i))]) (st' := [.int (nI i), .ref (X.1 8), .ref (X.1 8)]) rfl ?_
  refine x_rd (v := .int (bI (true))) (k' := 56) (as := [.ref (X.1 8), .int (nI i)]) (rest := [.ref (X.1 8)]) (x_isV (np := 1) rfl rfl rfl R.c8 rfl) (k_isCt R hi) ?_
  refine x_if (c := ¬ bI (true) = 0) (t := 13) rfl rfl (fun c1 => ?_) (fun c1 => ?_)
  · replace c1 := bI_n0 c1
    refine x_run 1 (pc' := 14) (lv' := [(0, .ref (X.1 8)), (1, .int (nI i))]) (st' := [.ref (X.1 8), .ref (X.1 8)]) rfl ?_
    refine x_get (v := .int (pI M 4 0)) rfl rfl R.c8 rfl ?_
    refine x_if (c := ¬ pI M 4 0 = 0) (t := 37) rfl rfl (fun c2 => ?_) (fun c2 => ?_)
    · refine x_run 2 (pc' := 42) (lv' := [(0, .ref (X.1 8)), (1, .int (nI i))]) (st' := [.int (2), .ref (X.1 8)]) rfl ?_
      refine x_put rfl rfl R.c8 rfl ?_
      refine gen_h (A := Rep u v X P M ((2, z.2))) (R.mCode _) (fun h R => ?_)
      refine x_run 1 (pc' := 46) (lv' := [(0, .ref (X.1 8)), (1, .int (nI i))]) (st' := [.ref (X.1 8)]) rfl ?_
      refine x_get (v := .int (2)) rfl rfl R.c8 rfl ?_
      refine x_if (c := ¬ nI 2 = nI 0) (t := 59) rfl rfl (fun c3 => ?_) (fun c3 => ?_)
      · replace c3 := mt (nI_eq (by omega) (by omega)).mpr c3
        rw [show o_contest M i = (6, none, M) from by simp only [o_contest, c2, not_true_eq_false, not_false_eq_true, if_true, if_false, ite_true, ite_false, reduceIte, reduceCtorEq, Classical.not_not, Bool.false_eq_true]]
        exact x_ret (v := none) rfl rfl rfl ⟨rfl, _, fun _ => rfl, R.less (by omega) (by omega)⟩
      · replace c3 := (nI_eq (by omega) (by omega)).mp (Classical.not_not.mp c3)
        omega
    · replace c2 := Classical.not_not.mp c2
      refine x_run 1 (pc' := 21) (lv' := [(0, .ref (X.1 8)), (1, .int (nI i))]) (st' := [.ref (X.1 8), .ref (X.1 8)]) rfl ?_
      refine x_get (v := .ref (X.1 15)) rfl rfl R.c8 rfl ?_
      refine x_run 1 (pc' := 25) (lv' := [(0, .ref (X.1 8)), (1, .int (nI i))]) (st' := [.int (nI i), .ref (X.1 15), .ref (X.1 8)]) rfl ?_
      refine x_iald (j := i) rfl R.c15 (mm_idx_nI (by omega) (by omega)) ?_
      refine x_if (c := ¬ pI M 0 i = 0) (t := 37) rfl rfl (fun c4 => ?_) (fun c4 => ?_)
      · refine x_run 2 (pc' := 42) (lv' := [(0, .ref (X.1 8)), (1, .int (nI i))]) (st' := [.int (2), .ref (X.1 8)]) rfl ?_
        refine x_put rfl rfl R.c8 rfl ?_
        refine gen_h (A := Rep u v X P M ((2, z.2))) (R.mCode _) (fun h R => ?_)
        refine x_run 1 (pc' := 46) (lv' := [(0, .ref (X.1 8)), (1, .int (nI i))]) (st' := [.ref (X.1 8)]) rfl ?_
        refine x_get (v := .int (2)) rfl rfl R.c8 rfl ?_
        refine x_if (c := ¬ nI 2 = nI 0) (t := 59) rfl rfl (fun c5 => ?_) (fun c5 => ?_)
        · replace c5 := mt (nI_eq (by omega) (by omega)).mpr c5
          rw [show o_contest M i = (6, none, M) from by simp only [o_contest, c2, c4, not_true_eq_false, not_false_eq_true, if_true, if_false, ite_true, ite_false, reduceIte, reduceCtorEq, Classical.not_not, Bool.false_eq_true]]
          exact x_ret (v := none) rfl rfl rfl ⟨rfl, _, fun _ => rfl, R.less (by omega) (by omega)⟩
        · replace c5 := (nI_eq (by omega) (by omega)).mp (Classical.not_not.mp c5)
          omega
      · replace c4 := Classical.not_not.mp c4
        refine x_run 2 (pc' := 31) (lv' := [(0, .ref (X.1 8)), (1, .int (nI i))]) (st' := [.int (nI i), .ref (X.1 8), .ref (X.1 8)]) rfl ?_
        refine x_rd (v := .int (bI (p_fresh M i))) (k' := 63) (as := [.ref (X.1 8), .int (nI i)]) (rest := [.ref (X.1 8)]) (x_isV (np := 1) rfl rfl rfl R.c8 rfl) (k_fresh R hi) ?_
        refine x_if (c := ¬ bI (p_fresh M i) = 0) (t := 41) rfl rfl (fun c6 => ?_) (fun c6 => ?_)
        · replace c6 := bI_n0 c6
          refine x_run 1 (pc' := 42) (lv' := [(0, .ref (X.1 8)), (1, .int (nI i))]) (st' := [.int (0), .ref (X.1 8)]) rfl ?_
          refine x_put rfl rfl R.c8 rfl ?_
          refine gen_h (A := Rep u v X P M ((0, z.2))) (R.mCode _) (fun h R => ?_)
          refine x_run 1 (pc' := 46) (lv' := [(0, .ref (X.1 8)), (1, .int (nI i))]) (st' := [.ref (X.1 8)]) rfl ?_
          refine x_get (v := .int (0)) rfl rfl R.c8 rfl ?_
          refine x_if (c := ¬ nI 0 = nI 0) (t := 59) rfl rfl (fun c7 => ?_) (fun c7 => ?_)
          · replace c7 := mt (nI_eq (by omega) (by omega)).mpr c7
            omega
          · replace c7 := (nI_eq (by omega) (by omega)).mp (Classical.not_not.mp c7)
            refine x_run 1 (pc' := 53) (lv' := [(0, .ref (X.1 8)), (1, .int (nI i))]) (st' := [.ref (X.1 8)]) rfl ?_
            refine x_get (v := .ref (X.1 15)) rfl rfl R.c8 rfl ?_
            refine x_run 2 (pc' := 58) (lv' := [(0, .ref (X.1 8)), (1, .int (nI i))]) (st' := [.int (1), .int (nI i), .ref (X.1 15)]) rfl ?_
            refine x_iast (j := i) rfl R.c15 (mm_idx_nI (by omega) (by omega)) ?_
            refine gen_h (A := Rep u v X P (sI M 0 i (1)) ((0, z.2))) (R.mState _) (fun h R => ?_)
            rw [show o_contest M i = (0, none, sI M 0 i (1)) from by simp only [o_contest, c2, c4, c6, not_true_eq_false, not_false_eq_true, if_true, if_false, ite_true, ite_false, reduceIte, reduceCtorEq, Classical.not_not, Bool.false_eq_true]]
            exact x_ret (v := none) rfl rfl rfl ⟨rfl, _, fun _ => rfl, R.less (by omega) (by omega)⟩
        · replace c6 := bI_0.mp (Classical.not_not.mp c6)
          refine x_run 2 (pc' := 42) (lv' := [(0, .ref (X.1 8)), (1, .int (nI i))]) (st' := [.int (2), .ref (X.1 8)]) rfl ?_
          refine x_put rfl rfl R.c8 rfl ?_
          refine gen_h (A := Rep u v X P M ((2, z.2))) (R.mCode _) (fun h R => ?_)
          refine x_run 1 (pc' := 46) (lv' := [(0, .ref (X.1 8)), (1, .int (nI i))]) (st' := [.ref (X.1 8)]) rfl ?_
          refine x_get (v := .int (2)) rfl rfl R.c8 rfl ?_
          refine x_if (c := ¬ nI 2 = nI 0) (t := 59) rfl rfl (fun c8 => ?_) (fun c8 => ?_)
          · replace c8 := mt (nI_eq (by omega) (by omega)).mpr c8
            rw [show o_contest M i = (6, none, M) from by simp only [o_contest, c2, c4, c6, not_true_eq_false, not_false_eq_true, if_true, if_false, ite_true, ite_false, reduceIte, reduceCtorEq, Classical.not_not, Bool.false_eq_true]]
            exact x_ret (v := none) rfl rfl rfl ⟨rfl, _, fun _ => rfl, R.less (by omega) (by omega)⟩
          · replace c8 := (nI_eq (by omega) (by omega)).mp (Classical.not_not.mp c8)
            omega
  · replace c1 := bI_0.mp (Classical.not_not.mp c1)
    cases c1
theorem k_contestX (R : Rep u v X P M z h) {q : Int32} (hq : q < 0 ∨ nI (pn M) ≤ q) : Wx (d + 3) 76 0 (lv_args 0 [.ref (X.1 8), .int (q)]) [] h (mQ u v X P z (1, none, M)) := by
  show Wx _ _ 0 [(0, .ref (X.1 8)), (1, .int (q))] [] h _
  refine x_run 3 (pc' := 3) (lv' := [(0, .ref (X.1 8)), (1, .int (q))]) (st' := [.int (q), .ref (X.1 8), .ref (X.1 8)]) rfl ?_
  refine x_rd (v := .int (bI (false))) (k' := 56) (as := [.ref (X.1 8), .int (q)]) (rest := [.ref (X.1 8)]) (x_isV (np := 1) rfl rfl rfl R.c8 rfl) (k_isCf R hq) ?_
  refine x_if (c := ¬ bI (false) = 0) (t := 13) rfl rfl (fun c1 => ?_) (fun c1 => ?_)
  · replace c1 := bI_n0 c1
    cases c1
  · replace c1 := bI_0.mp (Classical.not_not.mp c1)
    refine x_run 2 (pc' := 42) (lv' := [(0, .ref (X.1 8)), (1, .int (q))]) (st' := [.int (1), .ref (X.1 8)]) rfl ?_
    refine x_put rfl rfl R.c8 rfl ?_
    refine gen_h (A := Rep u v X P M ((1, z.2))) (R.mCode _) (fun h R => ?_)
    refine x_run 1 (pc' := 46) (lv' := [(0, .ref (X.1 8)), (1, .int (q))]) (st' := [.ref (X.1 8)]) rfl ?_
    refine x_get (v := .int (1)) rfl rfl R.c8 rfl ?_
    refine x_if (c := ¬ nI 1 = nI 0) (t := 59) rfl rfl (fun c2 => ?_) (fun c2 => ?_)
    · replace c2 := mt (nI_eq (by omega) (by omega)).mpr c2
      exact x_ret (v := none) rfl rfl rfl ⟨rfl, _, fun _ => rfl, R⟩
    · replace c2 := (nI_eq (by omega) (by omega)).mp (Classical.not_not.mp c2)
      omega
theorem k_cost (R : Rep u (v + 1) X P M z h) (n : Int64) : Wx (d + 3) 78 0 (lv_args 0 [.ref (X.1 8), .long (n)]) [] h (mQ u v X P z (mo (cd 5 6 99) (some (.long 0)) (o_cost M n))) := by
  show Wx _ _ 0 [(0, .ref (X.1 8)), (1, .long (n))] [] h _
  refine x_run 3 (pc' := 3) (lv' := [(0, .ref (X.1 8)), (1, .long (n))]) (st' := [.long (0), .long (n), .ref (X.1 8)]) rfl ?_
  refine x_ldc2 (x := 400000000) rfl rfl ?_
  refine x_rd (v := .int (bI (g_cents n 0))) (k' := 55) (as := [.long (n), .long (0), .long (400000000)]) (rest := [.ref (X.1 8)]) (x_isS (np := 3) rfl rfl rfl rfl rfl) (k_in _ _ _) ?_
  refine x_if (c := ¬ bI (g_cents n 0) = 0) (t := 16) rfl rfl (fun c1 => ?_) (fun c1 => ?_)
  · replace c1 := bI_n0 c1
    refine x_run 1 (pc' := 17) (lv' := [(0, .ref (X.1 8)), (1, .long (n))]) (st' := [.ref (X.1 8), .ref (X.1 8)]) rfl ?_
    refine x_get (v := .int (pI M 4 0)) rfl rfl R.c8 rfl ?_
    refine x_if (c := ¬ pI M 4 0 = 0) (t := 32) rfl rfl (fun c2 => ?_) (fun c2 => ?_)
    · refine x_run 2 (pc' := 37) (lv' := [(0, .ref (X.1 8)), (1, .long (n))]) (st' := [.int (2), .ref (X.1 8)]) rfl ?_
      refine x_put rfl rfl R.c8 rfl ?_
      refine gen_h (A := Rep u (v + 1) X P M ((2, z.2))) (R.mCode _) (fun h R => ?_)
      refine x_run 1 (pc' := 41) (lv' := [(0, .ref (X.1 8)), (1, .long (n))]) (st' := [.ref (X.1 8)]) rfl ?_
      refine x_get (v := .int (2)) rfl rfl R.c8 rfl ?_
      refine x_if (c := nI 2 ≤ nI 0) (t := 49) rfl rfl (fun c3 => ?_) (fun c3 => ?_)
      · replace c3 := (nI_leI (by omega) (by omega)).mp c3
        omega
      · replace c3 := mt (nI_leI (by omega) (by omega)).mpr c3
        refine x_run 1 (pc' := 48) (lv' := [(0, .ref (X.1 8)), (1, .long (n))]) (st' := [.long (0)]) rfl ?_
        rw [show o_cost M n = (6, none, M) from by simp only [o_cost, c1, c2, not_true_eq_false, not_false_eq_true, if_true, if_false, ite_true, ite_false, reduceIte, reduceCtorEq, Classical.not_not, Bool.false_eq_true]]
        exact x_ret (v := some (.long (0))) rfl rfl rfl ⟨rfl, _, fun _ => rfl, R.less (by omega) (by omega)⟩
    · replace c2 := Classical.not_not.mp c2
      refine x_run 1 (pc' := 24) (lv' := [(0, .ref (X.1 8)), (1, .long (n))]) (st' := [.ref (X.1 8), .ref (X.1 8)]) rfl ?_
      refine x_get (v := .long (pL M 7 0)) rfl rfl R.c8 rfl ?_
      refine x_run 1 (pc' := 28) (lv' := [(0, .ref (X.1 8)), (1, .long (n))]) (st' := [.long (n), .long (pL M 7 0), .ref (X.1 8)]) rfl ?_
      refine x_lge (t := 36) rfl rfl rfl (fun c4 => ?_) (fun c4 => ?_)
      · refine x_run 1 (pc' := 37) (lv' := [(0, .ref (X.1 8)), (1, .long (n))]) (st' := [.int (0), .ref (X.1 8)]) rfl ?_
        refine x_put rfl rfl R.c8 rfl ?_
        refine gen_h (A := Rep u (v + 1) X P M ((0, z.2))) (R.mCode _) (fun h R => ?_)
        refine x_run 1 (pc' := 41) (lv' := [(0, .ref (X.1 8)), (1, .long (n))]) (st' := [.ref (X.1 8)]) rfl ?_
        refine x_get (v := .int (0)) rfl rfl R.c8 rfl ?_
        refine x_if (c := nI 0 ≤ nI 0) (t := 49) rfl rfl (fun c5 => ?_) (fun c5 => ?_)
        · replace c5 := (nI_leI (by omega) (by omega)).mp c5
          refine x_run 2 (pc' := 51) (lv' := [(0, .ref (X.1 8)), (1, .long (n))]) (st' := [.ref (X.1 8), .ref (X.1 8)]) rfl ?_
          refine x_get (v := .long (pL M 7 0)) rfl rfl R.c8 rfl ?_
          refine x_run 2 (pc' := 56) (lv' := [(0, .ref (X.1 8)), (1, .long (n))]) (st' := [.long ((pL M 7 0) - n), .ref (X.1 8)]) rfl ?_
          refine x_put rfl rfl R.c8 rfl ?_
          refine gen_h (A := Rep u (v + 1) X P (sL M 7 0 ((pL M 7 0) - n)) ((0, z.2))) (R.mCash _) (fun h R => ?_)
          refine x_run 2 (pc' := 61) (lv' := [(0, .ref (X.1 8)), (1, .long (n))]) (st' := [.ref (X.1 8), .ref (X.1 8)]) rfl ?_
          refine x_get (v := .long (pL M 7 2)) rfl rfl R.c8 rfl ?_
          refine x_run 2 (pc' := 66) (lv' := [(0, .ref (X.1 8)), (1, .long (n))]) (st' := [.long ((pL M 7 2) + n), .ref (X.1 8)]) rfl ?_
          refine x_put rfl rfl R.c8 rfl ?_
          refine gen_h (A := Rep u (v + 1) X P (sL (sL M 7 0 ((pL M 7 0) - n)) 7 2 ((pL M 7 2) + n)) ((0, z.2))) (R.mSpent _) (fun h R => ?_)
          refine x_run 4 (pc' := 73) (lv' := [(0, .ref (X.1 8)), (1, .long (n))]) (st' := [.long (n), .int (-1), .int (3), .ref (X.1 8)]) rfl ?_
          refine x_wr0 (A := Rep u v X P (p_note (sL (sL M 7 0 ((pL M 7 0) - n)) 7 2 ((pL M 7 2) + n)) 3 (-1) n) ((0, z.2))) (k' := 59) (as := [.ref (X.1 8), .int (3), .int (-1), .long (n)]) (rest := []) (x_isV (np := 3) rfl rfl rfl R.c8 rfl) (k_note R _ _ _) (fun h R => ?_)
          refine x_run 1 (pc' := 77) (lv' := [(0, .ref (X.1 8)), (1, .long (n))]) (st' := [.ref (X.1 8)]) rfl ?_
          refine x_get (v := .long ((pL M 7 0) - n)) rfl rfl R.c8 rfl ?_
          rw [show o_cost M n = (0, some (.long ((pL M 7 0) - n)), p_note (sL (sL M 7 0 ((pL M 7 0) - n)) 7 2 ((pL M 7 2) + n)) 3 (-1) n) from by simp only [o_cost, c1, c2, c4, not_true_eq_false, not_false_eq_true, if_true, if_false, ite_true, ite_false, reduceIte, reduceCtorEq, Classical.not_not, Bool.false_eq_true]]
          exact x_ret (v := some (.long ((pL M 7 0) - n))) rfl rfl rfl ⟨rfl, _, fun _ => rfl, R.less (by omega) (by omega)⟩
        · replace c5 := mt (nI_leI (by omega) (by omega)).mpr c5
          omega
      · refine x_run 2 (pc' := 37) (lv' := [(0, .ref (X.1 8)), (1, .long (n))]) (st' := [.int (2), .ref (X.1 8)]) rfl ?_
        refine x_put rfl rfl R.c8 rfl ?_
        refine gen_h (A := Rep u (v + 1) X P M ((2, z.2))) (R.mCode _) (fun h R => ?_)
        refine x_run 1 (pc' := 41) (lv' := [(0, .ref (X.1 8)), (1, .long (n))]) (st' := [.ref (X.1 8)]) rfl ?_
        refine x_get (v := .int (2)) rfl rfl R.c8 rfl ?_
        refine x_if (c := nI 2 ≤ nI 0) (t := 49) rfl rfl (fun c6 => ?_) (fun c6 => ?_)
        · replace c6 := (nI_leI (by omega) (by omega)).mp c6
          omega
        · replace c6 := mt (nI_leI (by omega) (by omega)).mpr c6
          refine x_run 1 (pc' := 48) (lv' := [(0, .ref (X.1 8)), (1, .long (n))]) (st' := [.long (0)]) rfl ?_
          rw [show o_cost M n = (6, none, M) from by simp only [o_cost, c1, c2, c4, not_true_eq_false, not_false_eq_true, if_true, if_false, ite_true, ite_false, reduceIte, reduceCtorEq, Classical.not_not, Bool.false_eq_true]]
          exact x_ret (v := some (.long (0))) rfl rfl rfl ⟨rfl, _, fun _ => rfl, R.less (by omega) (by omega)⟩
  · replace c1 := bI_0.mp (Classical.not_not.mp c1)
    refine x_run 2 (pc' := 37) (lv' := [(0, .ref (X.1 8)), (1, .long (n))]) (st' := [.int (1), .ref (X.1 8)]) rfl ?_
    refine x_put rfl rfl R.c8 rfl ?_
    refine gen_h (A := Rep u (v + 1) X P M ((1, z.2))) (R.mCode _) (fun h R => ?_)
    refine x_run 1 (pc' := 41) (lv' := [(0, .ref (X.1 8)), (1, .long (n))]) (st' := [.ref (X.1 8)]) rfl ?_
    refine x_get (v := .int (1)) rfl rfl R.c8 rfl ?_
    refine x_if (c := nI 1 ≤ nI 0) (t := 49) rfl rfl (fun c7 => ?_) (fun c7 => ?_)
    · replace c7 := (nI_leI (by omega) (by omega)).mp c7
      omega
    · replace c7 := mt (nI_leI (by omega) (by omega)).mpr c7
      refine x_run 1 (pc' := 48) (lv' := [(0, .ref (X.1 8)), (1, .long (n))]) (st' := [.long (0)]) rfl ?_
      rw [show o_cost M n = (5, none, M) from by simp only [o_cost, c1, not_true_eq_false, not_false_eq_true, if_true, if_false, ite_true, ite_false, reduceIte, reduceCtorEq, Classical.not_not, Bool.false_eq_true]]
      exact x_ret (v := some (.long (0))) rfl rfl rfl ⟨rfl, _, fun _ => rfl, R.less (by omega) (by omega)⟩
theorem k_claim (R : Rep u v X P M z h) {r : Nat} (hr : r < 8) (c : Int64) : Wx (d + 3) 70 0 (lv_args 0 [.ref (X.1 8), .int (nI r), .long (c)]) [] h (mQ u v X P z (mo (cd 5 8 6) (some (.int 0)) (o_claim M r c))) := by
  have m60 := R.m60
  have R0 := R
  show Wx _ _ 0 [(0, .ref (X.1 8)), (1, .int (nI r)), (2, .long (c))] [] h _
  refine x_run 2 (pc' := 2) (lv' := [(0, .ref (X.1 8)), (1, .int (nI r)), (2, .long (c))]) (st' := [.int (nI r), .ref (X.1 8)]) rfl ?_
  refine x_rd (v := .int (bI (true))) (k' := 58) (as := [.int (nI r)]) (rest := [.ref (X.1 8)]) (x_isS (np := 1) rfl rfl rfl rfl rfl) (k_isRt hr) ?_
  refine x_if (c := bI (true) = 0) (t := 19) rfl rfl (fun c1 => ?_) (fun c1 => ?_)
  · replace c1 := bI_0.mp c1
    cases c1
  · replace c1 := bI_n0 c1
    refine x_run 2 (pc' := 10) (lv' := [(0, .ref (X.1 8)), (1, .int (nI r)), (2, .long (c))]) (st' := [.long (1), .long (c), .ref (X.1 8)]) rfl ?_
    refine x_ldc2 (x := 400000000) rfl rfl ?_
    refine x_rd (v := .int (bI (g_cents c 1))) (k' := 55) (as := [.long (c), .long (1), .long (400000000)]) (rest := [.ref (X.1 8)]) (x_isS (np := 3) rfl rfl rfl rfl rfl) (k_in _ _ _) ?_
    refine x_if (c := ¬ bI (g_cents c 1) = 0) (t := 23) rfl rfl (fun c2 => ?_) (fun c2 => ?_)
    · replace c2 := bI_n0 c2
      refine x_run 1 (pc' := 24) (lv' := [(0, .ref (X.1 8)), (1, .int (nI r)), (2, .long (c))]) (st' := [.ref (X.1 8), .ref (X.1 8)]) rfl ?_
      refine x_get (v := .int (nI (pn M))) rfl rfl R.c8 rfl ?_
      refine x_run 1 (pc' := 29) (lv' := [(0, .ref (X.1 8)), (1, .int (nI r)), (2, .long (c))]) (st' := [.int (60), .int (nI (pn M)), .ref (X.1 8)]) rfl ?_
      refine x_if (c := ¬ nI (pn M) = nI 60) (t := 36) rfl rfl (fun c3 => ?_) (fun c3 => ?_)
      · replace c3 := mt (nI_eq (by omega) (by omega)).mpr c3
        refine x_run 1 (pc' := 37) (lv' := [(0, .ref (X.1 8)), (1, .int (nI r)), (2, .long (c))]) (st' := [.ref (X.1 8), .ref (X.1 8)]) rfl ?_
        refine x_get (v := .int (pI M 4 0)) rfl rfl R.c8 rfl ?_
        refine x_if (c := pI M 4 0 = 0) (t := 47) rfl rfl (fun c4 => ?_) (fun c4 => ?_)
        · refine x_run 1 (pc' := 48) (lv' := [(0, .ref (X.1 8)), (1, .int (nI r)), (2, .long (c))]) (st' := [.int (0), .ref (X.1 8)]) rfl ?_
          refine x_put rfl rfl R.c8 rfl ?_
          refine gen_h (A := Rep u v X P M ((0, z.2))) (R.mCode _) (fun h R => ?_)
          refine x_run 1 (pc' := 52) (lv' := [(0, .ref (X.1 8)), (1, .int (nI r)), (2, .long (c))]) (st' := [.ref (X.1 8)]) rfl ?_
          refine x_get (v := .int (0)) rfl rfl R.c8 rfl ?_
          refine x_if (c := nI 0 ≤ nI 0) (t := 60) rfl rfl (fun c5 => ?_) (fun c5 => ?_)
          · replace c5 := (nI_leI (by omega) (by omega)).mp c5
            refine x_run 1 (pc' := 61) (lv' := [(0, .ref (X.1 8)), (1, .int (nI r)), (2, .long (c))]) (st' := [.ref (X.1 8)]) rfl ?_
            refine x_get (v := .ref (X.1 9)) rfl rfl R.c8 rfl ?_
            refine x_run 1 (pc' := 65) (lv' := [(0, .ref (X.1 8)), (1, .int (nI r)), (2, .long (c))]) (st' := [.ref (X.1 8), .ref (X.1 9)]) rfl ?_
            refine x_get (v := .int (nI (pn M))) rfl rfl R.c8 rfl ?_
            refine x_run 1 (pc' := 69) (lv' := [(0, .ref (X.1 8)), (1, .int (nI r)), (2, .long (c))]) (st' := [.int (nI r), .int (nI (pn M)), .ref (X.1 9)]) rfl ?_
            refine x_iast (j := pn M) rfl R.c9 (mm_idx_nI (by omega) (by omega)) ?_
            refine gen_h (A := Rep u v X P (sN M 0 (pn M) (r)) ((0, z.2))) (R.mRank _ (wf_rank R0.wM hr)) (fun h R => ?_)
            refine x_run 1 (pc' := 71) (lv' := [(0, .ref (X.1 8)), (1, .int (nI r)), (2, .long (c))]) (st' := [.ref (X.1 8)]) rfl ?_
            refine x_get (v := .ref (X.1 10)) rfl rfl R.c8 rfl ?_
            refine x_run 1 (pc' := 75) (lv' := [(0, .ref (X.1 8)), (1, .int (nI r)), (2, .long (c))]) (st' := [.ref (X.1 8), .ref (X.1 10)]) rfl ?_
            refine x_get (v := .int (nI (pn M))) rfl rfl R.c8 rfl ?_
            refine x_run 1 (pc' := 79) (lv' := [(0, .ref (X.1 8)), (1, .int (nI r)), (2, .long (c))]) (st' := [.long (c), .int (nI (pn M)), .ref (X.1 10)]) rfl ?_
            refine x_last (j := pn M) rfl R.c10 (mm_idx_nI (by omega) (by omega)) ?_
            refine gen_h (A := Rep u v X P (sL (sN M 0 (pn M) (r)) 0 (pn M) (c)) ((0, z.2))) (R.mAmount _) (fun h R => ?_)
            refine x_run 2 (pc' := 82) (lv' := [(0, .ref (X.1 8)), (1, .int (nI r)), (2, .long (c))]) (st' := [.ref (X.1 8), .ref (X.1 8)]) rfl ?_
            refine x_get (v := .int (nI (pn M))) rfl rfl R.c8 rfl ?_
            refine x_run 2 (pc' := 87) (lv' := [(0, .ref (X.1 8)), (1, .int (nI r)), (2, .long (c))]) (st' := [.int ((nI (pn M)) + (nI 1)), .ref (X.1 8)]) rfl ?_
            rw [nI_add]
            refine x_put rfl rfl R.c8 rfl ?_
            refine gen_h (A := Rep u v X P (p_claim M r c) ((0, z.2))) (R.mClaims (wf_claim R0.wM (by omega) hr c)) (fun h R => ?_)
            refine x_run 1 (pc' := 91) (lv' := [(0, .ref (X.1 8)), (1, .int (nI r)), (2, .long (c))]) (st' := [.ref (X.1 8)]) rfl ?_
            refine x_get (v := .int (nI (pn M + 1))) rfl rfl R.c8 rfl ?_
            refine x_run 2 (pc' := 96) (lv' := [(0, .ref (X.1 8)), (1, .int (nI r)), (2, .long (c))]) (st' := [.int (nI (pn M + 1) - 1)]) rfl ?_
            rw [nI_pred]
            have f1 : pn M < 60 := by omega
            rw [show o_claim M r c = (0, some (.int (nI (pn M))), p_claim M r c) from by simp only [o_claim, f1, c2, c4, not_true_eq_false, not_false_eq_true, if_true, if_false, ite_true, ite_false, reduceIte, reduceCtorEq, Classical.not_not, Bool.false_eq_true]]
            exact x_ret (v := some (.int (nI (pn M)))) rfl rfl rfl ⟨rfl, _, fun _ => rfl, R.less (by omega) (by omega)⟩
          · replace c5 := mt (nI_leI (by omega) (by omega)).mpr c5
            omega
        · refine x_run 2 (pc' := 48) (lv' := [(0, .ref (X.1 8)), (1, .int (nI r)), (2, .long (c))]) (st' := [.int (3), .ref (X.1 8)]) rfl ?_
          refine x_put rfl rfl R.c8 rfl ?_
          refine gen_h (A := Rep u v X P M ((3, z.2))) (R.mCode _) (fun h R => ?_)
          refine x_run 1 (pc' := 52) (lv' := [(0, .ref (X.1 8)), (1, .int (nI r)), (2, .long (c))]) (st' := [.ref (X.1 8)]) rfl ?_
          refine x_get (v := .int (3)) rfl rfl R.c8 rfl ?_
          refine x_if (c := nI 3 ≤ nI 0) (t := 60) rfl rfl (fun c6 => ?_) (fun c6 => ?_)
          · replace c6 := (nI_leI (by omega) (by omega)).mp c6
            omega
          · replace c6 := mt (nI_leI (by omega) (by omega)).mpr c6
            refine x_run 1 (pc' := 59) (lv' := [(0, .ref (X.1 8)), (1, .int (nI r)), (2, .long (c))]) (st' := [.int (0)]) rfl ?_
            have f1 : pn M < 60 := by omega
            rw [show o_claim M r c = (6, none, M) from by simp only [o_claim, f1, c2, c4, not_true_eq_false, not_false_eq_true, if_true, if_false, ite_true, ite_false, reduceIte, reduceCtorEq, Classical.not_not, Bool.false_eq_true]]
            exact x_ret (v := some (.int (0))) rfl rfl rfl ⟨rfl, _, fun _ => rfl, R.less (by omega) (by omega)⟩
      · replace c3 := (nI_eq (by omega) (by omega)).mp (Classical.not_not.mp c3)
        refine x_run 2 (pc' := 48) (lv' := [(0, .ref (X.1 8)), (1, .int (nI r)), (2, .long (c))]) (st' := [.int (2), .ref (X.1 8)]) rfl ?_
        refine x_put rfl rfl R.c8 rfl ?_
        refine gen_h (A := Rep u v X P M ((2, z.2))) (R.mCode _) (fun h R => ?_)
        refine x_run 1 (pc' := 52) (lv' := [(0, .ref (X.1 8)), (1, .int (nI r)), (2, .long (c))]) (st' := [.ref (X.1 8)]) rfl ?_
        refine x_get (v := .int (2)) rfl rfl R.c8 rfl ?_
        refine x_if (c := nI 2 ≤ nI 0) (t := 60) rfl rfl (fun c7 => ?_) (fun c7 => ?_)
        · replace c7 := (nI_leI (by omega) (by omega)).mp c7
          omega
        · replace c7 := mt (nI_leI (by omega) (by omega)).mpr c7
          refine x_run 1 (pc' := 59) (lv' := [(0, .ref (X.1 8)), (1, .int (nI r)), (2, .long (c))]) (st' := [.int (0)]) rfl ?_
          have f1 : ¬ pn M < 60 := by omega
          rw [show o_claim M r c = (8, none, M) from by simp only [o_claim, f1, c2, not_true_eq_false, not_false_eq_true, if_true, if_false, ite_true, ite_false, reduceIte, reduceCtorEq, Classical.not_not, Bool.false_eq_true]]
          exact x_ret (v := some (.int (0))) rfl rfl rfl ⟨rfl, _, fun _ => rfl, R.less (by omega) (by omega)⟩
    · replace c2 := bI_0.mp (Classical.not_not.mp c2)
      refine x_run 2 (pc' := 48) (lv' := [(0, .ref (X.1 8)), (1, .int (nI r)), (2, .long (c))]) (st' := [.int (1), .ref (X.1 8)]) rfl ?_
      refine x_put rfl rfl R.c8 rfl ?_
      refine gen_h (A := Rep u v X P M ((1, z.2))) (R.mCode _) (fun h R => ?_)
      refine x_run 1 (pc' := 52) (lv' := [(0, .ref (X.1 8)), (1, .int (nI r)), (2, .long (c))]) (st' := [.ref (X.1 8)]) rfl ?_
      refine x_get (v := .int (1)) rfl rfl R.c8 rfl ?_
      refine x_if (c := nI 1 ≤ nI 0) (t := 60) rfl rfl (fun c8 => ?_) (fun c8 => ?_)
      · replace c8 := (nI_leI (by omega) (by omega)).mp c8
        omega
      · replace c8 := mt (nI_leI (by omega) (by omega)).mpr c8
        refine x_run 1 (pc' := 59) (lv' := [(0, .ref (X.1 8)), (1, .int (nI r)), (2, .long (c))]) (st' := [.int (0)]) rfl ?_
        rw [show o_claim M r c = (5, none, M) from by simp only [o_claim, c2, not_true_eq_false, not_false_eq_true, if_true, if_false, ite_true, ite_false, reduceIte, reduceCtorEq, Classical.not_not, Bool.false_eq_true]]
        exact x_ret (v := some (.int (0))) rfl rfl rfl ⟨rfl, _, fun _ => rfl, R.less (by omega) (by omega)⟩
theorem k_claimX (R : Rep u v X P M z h) {q : Int32} (hq : q < 0 ∨ 8 ≤ q) (c : Int64) : Wx (d + 3) 70 0 (lv_args 0 [.ref (X.1 8), .int (q), .long (c)]) [] h (mQ u v X P z (1, (some (.int 0)), M)) := by
  show Wx _ _ 0 [(0, .ref (X.1 8)), (1, .int (q)), (2, .long (c))] [] h _
  refine x_run 2 (pc' := 2) (lv' := [(0, .ref (X.1 8)), (1, .int (q)), (2, .long (c))]) (st' := [.int (q), .ref (X.1 8)]) rfl ?_
  refine x_rd (v := .int (bI (false))) (k' := 58) (as := [.int (q)]) (rest := [.ref (X.1 8)]) (x_isS (np := 1) rfl rfl rfl rfl rfl) (k_isRf hq) ?_
  refine x_if (c := bI (false) = 0) (t := 19) rfl rfl (fun c1 => ?_) (fun c1 => ?_)
  · replace c1 := bI_0.mp c1
    refine x_run 2 (pc' := 48) (lv' := [(0, .ref (X.1 8)), (1, .int (q)), (2, .long (c))]) (st' := [.int (1), .ref (X.1 8)]) rfl ?_
    refine x_put rfl rfl R.c8 rfl ?_
    refine gen_h (A := Rep u v X P M ((1, z.2))) (R.mCode _) (fun h R => ?_)
    refine x_run 1 (pc' := 52) (lv' := [(0, .ref (X.1 8)), (1, .int (q)), (2, .long (c))]) (st' := [.ref (X.1 8)]) rfl ?_
    refine x_get (v := .int (1)) rfl rfl R.c8 rfl ?_
    refine x_if (c := nI 1 ≤ nI 0) (t := 60) rfl rfl (fun c2 => ?_) (fun c2 => ?_)
    · replace c2 := (nI_leI (by omega) (by omega)).mp c2
      omega
    · replace c2 := mt (nI_leI (by omega) (by omega)).mpr c2
      refine x_run 1 (pc' := 59) (lv' := [(0, .ref (X.1 8)), (1, .int (q)), (2, .long (c))]) (st' := [.int (0)]) rfl ?_
      exact x_ret (v := some (.int (0))) rfl rfl rfl ⟨rfl, _, fun _ => rfl, R⟩
  · replace c1 := bI_n0 c1
    cases c1
theorem k_asset (R : Rep u v X P M z h) (hz : pa M < 20 → Za M (pa M)) : Wx (d + 3) 72 0 (lv_args 0 [.ref (X.1 8)]) [] h (mQ u v X P z (mo (cd 8 6 99) (some (.int 0)) (o_asset M))) := by
  have b20 := R.b20
  have R0 := R
  show Wx _ _ 0 [(0, .ref (X.1 8))] [] h _
  refine x_run 2 (pc' := 2) (lv' := [(0, .ref (X.1 8))]) (st' := [.ref (X.1 8), .ref (X.1 8)]) rfl ?_
  refine x_get (v := .int (nI (pa M))) rfl rfl R.c8 rfl ?_
  refine x_run 1 (pc' := 7) (lv' := [(0, .ref (X.1 8))]) (st' := [.int (20), .int (nI (pa M)), .ref (X.1 8)]) rfl ?_
  refine x_if (c := ¬ nI (pa M) = nI 20) (t := 14) rfl rfl (fun c1 => ?_) (fun c1 => ?_)
  · replace c1 := mt (nI_eq (by omega) (by omega)).mpr c1
    refine x_run 1 (pc' := 15) (lv' := [(0, .ref (X.1 8))]) (st' := [.ref (X.1 8), .ref (X.1 8)]) rfl ?_
    refine x_get (v := .int (pI M 4 0)) rfl rfl R.c8 rfl ?_
    refine x_if (c := pI M 4 0 = 0) (t := 25) rfl rfl (fun c2 => ?_) (fun c2 => ?_)
    · refine x_run 1 (pc' := 26) (lv' := [(0, .ref (X.1 8))]) (st' := [.int (0), .ref (X.1 8)]) rfl ?_
      refine x_put rfl rfl R.c8 rfl ?_
      refine gen_h (A := Rep u v X P M ((0, z.2))) (R.mCode _) (fun h R => ?_)
      refine x_run 1 (pc' := 30) (lv' := [(0, .ref (X.1 8))]) (st' := [.ref (X.1 8)]) rfl ?_
      refine x_get (v := .int (0)) rfl rfl R.c8 rfl ?_
      refine x_if (c := nI 0 ≤ nI 0) (t := 38) rfl rfl (fun c3 => ?_) (fun c3 => ?_)
      · replace c3 := (nI_leI (by omega) (by omega)).mp c3
        refine x_run 2 (pc' := 40) (lv' := [(0, .ref (X.1 8))]) (st' := [.ref (X.1 8), .ref (X.1 8)]) rfl ?_
        refine x_get (v := .int (nI (pa M))) rfl rfl R.c8 rfl ?_
        refine x_run 2 (pc' := 45) (lv' := [(0, .ref (X.1 8))]) (st' := [.int ((nI (pa M)) + (nI 1)), .ref (X.1 8)]) rfl ?_
        rw [nI_add]
        refine x_put rfl rfl R.c8 rfl ?_
        refine gen_h (A := Rep u v X P (p_asset M) ((0, z.2))) (R.mAssets (wf_asset R0.wM (by omega) (hz (by omega)))) (fun h R => ?_)
        refine x_run 1 (pc' := 49) (lv' := [(0, .ref (X.1 8))]) (st' := [.ref (X.1 8)]) rfl ?_
        refine x_get (v := .int (nI (pa M + 1))) rfl rfl R.c8 rfl ?_
        refine x_run 2 (pc' := 54) (lv' := [(0, .ref (X.1 8))]) (st' := [.int (nI (pa M + 1) - 1)]) rfl ?_
        rw [nI_pred]
        have f1 : pa M < 20 := by omega
        rw [show o_asset M = (0, some (.int (nI (pa M))), p_asset M) from by simp only [o_asset, f1, c2, not_true_eq_false, not_false_eq_true, if_true, if_false, ite_true, ite_false, reduceIte, reduceCtorEq, Classical.not_not, Bool.false_eq_true]]
        exact x_ret (v := some (.int (nI (pa M)))) rfl rfl rfl ⟨rfl, _, fun _ => rfl, R.less (by omega) (by omega)⟩
      · replace c3 := mt (nI_leI (by omega) (by omega)).mpr c3
        omega
    · refine x_run 2 (pc' := 26) (lv' := [(0, .ref (X.1 8))]) (st' := [.int (2), .ref (X.1 8)]) rfl ?_
      refine x_put rfl rfl R.c8 rfl ?_
      refine gen_h (A := Rep u v X P M ((2, z.2))) (R.mCode _) (fun h R => ?_)
      refine x_run 1 (pc' := 30) (lv' := [(0, .ref (X.1 8))]) (st' := [.ref (X.1 8)]) rfl ?_
      refine x_get (v := .int (2)) rfl rfl R.c8 rfl ?_
      refine x_if (c := nI 2 ≤ nI 0) (t := 38) rfl rfl (fun c4 => ?_) (fun c4 => ?_)
      · replace c4 := (nI_leI (by omega) (by omega)).mp c4
        omega
      · replace c4 := mt (nI_leI (by omega) (by omega)).mpr c4
        refine x_run 1 (pc' := 37) (lv' := [(0, .ref (X.1 8))]) (st' := [.int (0)]) rfl ?_
        have f1 : pa M < 20 := by omega
        rw [show o_asset M = (6, none, M) from by simp only [o_asset, f1, c2, not_true_eq_false, not_false_eq_true, if_true, if_false, ite_true, ite_false, reduceIte, reduceCtorEq, Classical.not_not, Bool.false_eq_true]]
        exact x_ret (v := some (.int (0))) rfl rfl rfl ⟨rfl, _, fun _ => rfl, R.less (by omega) (by omega)⟩
  · replace c1 := (nI_eq (by omega) (by omega)).mp (Classical.not_not.mp c1)
    refine x_run 2 (pc' := 26) (lv' := [(0, .ref (X.1 8))]) (st' := [.int (1), .ref (X.1 8)]) rfl ?_
    refine x_put rfl rfl R.c8 rfl ?_
    refine gen_h (A := Rep u v X P M ((1, z.2))) (R.mCode _) (fun h R => ?_)
    refine x_run 1 (pc' := 30) (lv' := [(0, .ref (X.1 8))]) (st' := [.ref (X.1 8)]) rfl ?_
    refine x_get (v := .int (1)) rfl rfl R.c8 rfl ?_
    refine x_if (c := nI 1 ≤ nI 0) (t := 38) rfl rfl (fun c5 => ?_) (fun c5 => ?_)
    · replace c5 := (nI_leI (by omega) (by omega)).mp c5
      omega
    · replace c5 := mt (nI_leI (by omega) (by omega)).mpr c5
      refine x_run 1 (pc' := 37) (lv' := [(0, .ref (X.1 8))]) (st' := [.int (0)]) rfl ?_
      have f1 : ¬ pa M < 20 := by omega
      rw [show o_asset M = (8, none, M) from by simp only [o_asset, f1, not_true_eq_false, not_false_eq_true, if_true, if_false, ite_true, ite_false, reduceIte, reduceCtorEq, Classical.not_not, Bool.false_eq_true]]
      exact x_ret (v := some (.int (0))) rfl rfl rfl ⟨rfl, _, fun _ => rfl, R.less (by omega) (by omega)⟩
theorem k_hasP (R : Rep u v X P M z h) (hj : j < pa M) {c : Nat} (hc : c < pn M) : Wx d 61 0 (lv_args 0 [.ref (X.1 8), .int (nI j), .int (nI c)]) [] h (fun r0 => r0 = (.inl (some (.int (bI (p_has M j c (pN M 1 j) 0)))), h)) := by
  rw [← p_hs_has]
  exact k_has R hj hc
theorem k_sec (R : Rep u v X P M z h) (hj : j < pa M) (hi : i < pn M) (l : Int64) : Wx (d + 3) 73 0 (lv_args 0 [.ref (X.1 8), .int (nI j), .int (nI i), .long (l)]) [] h (mQ u v X P z (mo (cd 7 5 8 6) (some (.int 0)) (o_sec M j i l))) := by
  have m60 := R.m60
  have b20 := R.b20
  have mn := R.wM.mn hj
  have R0 := R
  show Wx _ _ 0 [(0, .ref (X.1 8)), (1, .int (nI j)), (2, .int (nI i)), (3, .long (l))] [] h _
  refine x_run 3 (pc' := 3) (lv' := [(0, .ref (X.1 8)), (1, .int (nI j)), (2, .int (nI i)), (3, .long (l))]) (st' := [.int (nI j), .ref (X.1 8), .ref (X.1 8)]) rfl ?_
  refine x_rd (v := .int (bI (true))) (k' := 57) (as := [.ref (X.1 8), .int (nI j)]) (rest := [.ref (X.1 8)]) (x_isV (np := 1) rfl rfl rfl R.c8 rfl) (k_isAt R hj) ?_
  refine x_if (c := bI (true) = 0) (t := 17) rfl rfl (fun c1 => ?_) (fun c1 => ?_)
  · replace c1 := bI_0.mp c1
    cases c1
  · replace c1 := bI_n0 c1
    refine x_run 2 (pc' := 11) (lv' := [(0, .ref (X.1 8)), (1, .int (nI j)), (2, .int (nI i)), (3, .long (l))]) (st' := [.int (nI i), .ref (X.1 8), .ref (X.1 8)]) rfl ?_
    refine x_rd (v := .int (bI (true))) (k' := 56) (as := [.ref (X.1 8), .int (nI i)]) (rest := [.ref (X.1 8)]) (x_isV (np := 1) rfl rfl rfl R.c8 rfl) (k_isCt R hi) ?_
    refine x_if (c := ¬ bI (true) = 0) (t := 21) rfl rfl (fun c2 => ?_) (fun c2 => ?_)
    · replace c2 := bI_n0 c2
      refine x_run 2 (pc' := 23) (lv' := [(0, .ref (X.1 8)), (1, .int (nI j)), (2, .int (nI i)), (3, .long (l))]) (st' := [.long (1), .long (l), .ref (X.1 8)]) rfl ?_
      refine x_ldc2 (x := 400000000) rfl rfl ?_
      refine x_rd (v := .int (bI (g_cents l 1))) (k' := 55) (as := [.long (l), .long (1), .long (400000000)]) (rest := [.ref (X.1 8)]) (x_isS (np := 3) rfl rfl rfl rfl rfl) (k_in _ _ _) ?_
      refine x_if (c := ¬ bI (g_cents l 1) = 0) (t := 36) rfl rfl (fun c3 => ?_) (fun c3 => ?_)
      · replace c3 := bI_n0 c3
        refine x_run 1 (pc' := 37) (lv' := [(0, .ref (X.1 8)), (1, .int (nI j)), (2, .int (nI i)), (3, .long (l))]) (st' := [.ref (X.1 8), .ref (X.1 8)]) rfl ?_
        refine x_get (v := .ref (X.1 17)) rfl rfl R.c8 rfl ?_
        refine x_run 1 (pc' := 41) (lv' := [(0, .ref (X.1 8)), (1, .int (nI j)), (2, .int (nI i)), (3, .long (l))]) (st' := [.int (nI j), .ref (X.1 17), .ref (X.1 8)]) rfl ?_
        refine x_iald (j := j) rfl R.c17 (mm_idx_nI (by omega) (by omega)) ?_
        refine x_run 1 (pc' := 43) (lv' := [(0, .ref (X.1 8)), (1, .int (nI j)), (2, .int (nI i)), (3, .long (l))]) (st' := [.int (4), .int (nI (pN M 1 j)), .ref (X.1 8)]) rfl ?_
        refine x_if (c := ¬ nI (pN M 1 j) = nI 4) (t := 50) rfl rfl (fun c4 => ?_) (fun c4 => ?_)
        · replace c4 := mt (nI_eq (by omega) (by omega)).mpr c4
          refine x_run 1 (pc' := 51) (lv' := [(0, .ref (X.1 8)), (1, .int (nI j)), (2, .int (nI i)), (3, .long (l))]) (st' := [.int (0), .ref (X.1 8)]) rfl ?_
          refine x_put rfl rfl R.c8 rfl ?_
          refine gen_h (A := Rep u v X P M ((0, z.2))) (R.mCode _) (fun h R => ?_)
          refine x_run 1 (pc' := 55) (lv' := [(0, .ref (X.1 8)), (1, .int (nI j)), (2, .int (nI i)), (3, .long (l))]) (st' := [.ref (X.1 8)]) rfl ?_
          refine x_get (v := .int (0)) rfl rfl R.c8 rfl ?_
          refine x_if (c := ¬ nI 0 = nI 0) (t := 109) rfl rfl (fun c5 => ?_) (fun c5 => ?_)
          · replace c5 := mt (nI_eq (by omega) (by omega)).mpr c5
            omega
          · replace c5 := (nI_eq (by omega) (by omega)).mp (Classical.not_not.mp c5)
            refine x_run 1 (pc' := 62) (lv' := [(0, .ref (X.1 8)), (1, .int (nI j)), (2, .int (nI i)), (3, .long (l))]) (st' := [.ref (X.1 8)]) rfl ?_
            refine x_get (v := .int (pI M 4 0)) rfl rfl R.c8 rfl ?_
            refine x_if (c := ¬ pI M 4 0 = 0) (t := 104) rfl rfl (fun c6 => ?_) (fun c6 => ?_)
            · refine x_run 2 (pc' := 106) (lv' := [(0, .ref (X.1 8)), (1, .int (nI j)), (2, .int (nI i)), (3, .long (l))]) (st' := [.int (4), .ref (X.1 8)]) rfl ?_
              refine x_put rfl rfl R.c8 rfl ?_
              refine gen_h (A := Rep u v X P M ((4, z.2))) (R.mCode _) (fun h R => ?_)
              refine x_run 1 (pc' := 110) (lv' := [(0, .ref (X.1 8)), (1, .int (nI j)), (2, .int (nI i)), (3, .long (l))]) (st' := [.ref (X.1 8)]) rfl ?_
              refine x_get (v := .int (4)) rfl rfl R.c8 rfl ?_
              refine x_if (c := nI 4 ≤ nI 0) (t := 118) rfl rfl (fun c7 => ?_) (fun c7 => ?_)
              · replace c7 := (nI_leI (by omega) (by omega)).mp c7
                omega
              · replace c7 := mt (nI_leI (by omega) (by omega)).mpr c7
                refine x_run 1 (pc' := 117) (lv' := [(0, .ref (X.1 8)), (1, .int (nI j)), (2, .int (nI i)), (3, .long (l))]) (st' := [.int (0)]) rfl ?_
                have f1 : pN M 1 j < 4 := by omega
                rw [show o_sec M j i l = (6, none, M) from by simp only [o_sec, f1, c3, c6, not_true_eq_false, not_false_eq_true, if_true, if_false, ite_true, ite_false, reduceIte, reduceCtorEq, Classical.not_not, Bool.false_eq_true]]
                exact x_ret (v := some (.int (0))) rfl rfl rfl ⟨rfl, _, fun _ => rfl, R.less (by omega) (by omega)⟩
            · replace c6 := Classical.not_not.mp c6
              refine x_run 1 (pc' := 69) (lv' := [(0, .ref (X.1 8)), (1, .int (nI j)), (2, .int (nI i)), (3, .long (l))]) (st' := [.ref (X.1 8)]) rfl ?_
              refine x_get (v := .ref (X.1 16)) rfl rfl R.c8 rfl ?_
              refine x_run 1 (pc' := 73) (lv' := [(0, .ref (X.1 8)), (1, .int (nI j)), (2, .int (nI i)), (3, .long (l))]) (st' := [.int (nI j), .ref (X.1 16)]) rfl ?_
              refine x_zald (j := j) rfl R.c16 (mm_idx_nI (by omega) (by omega)) ?_
              refine x_if (c := ¬ pI M 1 j = 0) (t := 104) rfl rfl (fun c8 => ?_) (fun c8 => ?_)
              · refine x_run 2 (pc' := 106) (lv' := [(0, .ref (X.1 8)), (1, .int (nI j)), (2, .int (nI i)), (3, .long (l))]) (st' := [.int (4), .ref (X.1 8)]) rfl ?_
                refine x_put rfl rfl R.c8 rfl ?_
                refine gen_h (A := Rep u v X P M ((4, z.2))) (R.mCode _) (fun h R => ?_)
                refine x_run 1 (pc' := 110) (lv' := [(0, .ref (X.1 8)), (1, .int (nI j)), (2, .int (nI i)), (3, .long (l))]) (st' := [.ref (X.1 8)]) rfl ?_
                refine x_get (v := .int (4)) rfl rfl R.c8 rfl ?_
                refine x_if (c := nI 4 ≤ nI 0) (t := 118) rfl rfl (fun c9 => ?_) (fun c9 => ?_)
                · replace c9 := (nI_leI (by omega) (by omega)).mp c9
                  omega
                · replace c9 := mt (nI_leI (by omega) (by omega)).mpr c9
                  refine x_run 1 (pc' := 117) (lv' := [(0, .ref (X.1 8)), (1, .int (nI j)), (2, .int (nI i)), (3, .long (l))]) (st' := [.int (0)]) rfl ?_
                  have f1 : pN M 1 j < 4 := by omega
                  rw [show o_sec M j i l = (6, none, M) from by simp only [o_sec, f1, c3, c6, c8, not_true_eq_false, not_false_eq_true, if_true, if_false, ite_true, ite_false, reduceIte, reduceCtorEq, Classical.not_not, Bool.false_eq_true]]
                  exact x_ret (v := some (.int (0))) rfl rfl rfl ⟨rfl, _, fun _ => rfl, R.less (by omega) (by omega)⟩
              · replace c8 := Classical.not_not.mp c8
                refine x_run 3 (pc' := 80) (lv' := [(0, .ref (X.1 8)), (1, .int (nI j)), (2, .int (nI i)), (3, .long (l))]) (st' := [.int (nI i), .int (nI j), .ref (X.1 8)]) rfl ?_
                refine x_rd (v := .int (bI (p_has M j i (pN M 1 j) 0))) (k' := 61) (as := [.ref (X.1 8), .int (nI j), .int (nI i)]) (rest := []) (x_isV (np := 2) rfl rfl rfl R.c8 rfl) (k_hasP R hj hi) ?_
                refine x_if (c := ¬ bI (p_has M j i (pN M 1 j) 0) = 0) (t := 104) rfl rfl (fun c10 => ?_) (fun c10 => ?_)
                · replace c10 := bI_n0 c10
                  refine x_run 2 (pc' := 106) (lv' := [(0, .ref (X.1 8)), (1, .int (nI j)), (2, .int (nI i)), (3, .long (l))]) (st' := [.int (4), .ref (X.1 8)]) rfl ?_
                  refine x_put rfl rfl R.c8 rfl ?_
                  refine gen_h (A := Rep u v X P M ((4, z.2))) (R.mCode _) (fun h R => ?_)
                  refine x_run 1 (pc' := 110) (lv' := [(0, .ref (X.1 8)), (1, .int (nI j)), (2, .int (nI i)), (3, .long (l))]) (st' := [.ref (X.1 8)]) rfl ?_
                  refine x_get (v := .int (4)) rfl rfl R.c8 rfl ?_
                  refine x_if (c := nI 4 ≤ nI 0) (t := 118) rfl rfl (fun c11 => ?_) (fun c11 => ?_)
                  · replace c11 := (nI_leI (by omega) (by omega)).mp c11
                    omega
                  · replace c11 := mt (nI_leI (by omega) (by omega)).mpr c11
                    refine x_run 1 (pc' := 117) (lv' := [(0, .ref (X.1 8)), (1, .int (nI j)), (2, .int (nI i)), (3, .long (l))]) (st' := [.int (0)]) rfl ?_
                    have f1 : pN M 1 j < 4 := by omega
                    rw [show o_sec M j i l = (6, none, M) from by simp only [o_sec, f1, c3, c6, c8, c10, not_true_eq_false, not_false_eq_true, if_true, if_false, ite_true, ite_false, reduceIte, reduceCtorEq, Classical.not_not, Bool.false_eq_true]]
                    exact x_ret (v := some (.int (0))) rfl rfl rfl ⟨rfl, _, fun _ => rfl, R.less (by omega) (by omega)⟩
                · replace c10 := bI_0.mp (Classical.not_not.mp c10)
                  refine x_run 1 (pc' := 87) (lv' := [(0, .ref (X.1 8)), (1, .int (nI j)), (2, .int (nI i)), (3, .long (l))]) (st' := [.ref (X.1 8)]) rfl ?_
                  refine x_get (v := .ref (X.1 15)) rfl rfl R.c8 rfl ?_
                  refine x_run 1 (pc' := 91) (lv' := [(0, .ref (X.1 8)), (1, .int (nI j)), (2, .int (nI i)), (3, .long (l))]) (st' := [.int (nI i), .ref (X.1 15)]) rfl ?_
                  refine x_iald (j := i) rfl R.c15 (mm_idx_nI (by omega) (by omega)) ?_
                  refine x_run 1 (pc' := 93) (lv' := [(0, .ref (X.1 8)), (1, .int (nI j)), (2, .int (nI i)), (3, .long (l))]) (st' := [.int (2), .int (pI M 0 i)]) rfl ?_
                  refine x_if (c := pI M 0 i = 2) (t := 104) rfl rfl (fun c12 => ?_) (fun c12 => ?_)
                  · refine x_run 2 (pc' := 106) (lv' := [(0, .ref (X.1 8)), (1, .int (nI j)), (2, .int (nI i)), (3, .long (l))]) (st' := [.int (4), .ref (X.1 8)]) rfl ?_
                    refine x_put rfl rfl R.c8 rfl ?_
                    refine gen_h (A := Rep u v X P M ((4, z.2))) (R.mCode _) (fun h R => ?_)
                    refine x_run 1 (pc' := 110) (lv' := [(0, .ref (X.1 8)), (1, .int (nI j)), (2, .int (nI i)), (3, .long (l))]) (st' := [.ref (X.1 8)]) rfl ?_
                    refine x_get (v := .int (4)) rfl rfl R.c8 rfl ?_
                    refine x_if (c := nI 4 ≤ nI 0) (t := 118) rfl rfl (fun c13 => ?_) (fun c13 => ?_)
                    · replace c13 := (nI_leI (by omega) (by omega)).mp c13
                      omega
                    · replace c13 := mt (nI_leI (by omega) (by omega)).mpr c13
                      refine x_run 1 (pc' := 117) (lv' := [(0, .ref (X.1 8)), (1, .int (nI j)), (2, .int (nI i)), (3, .long (l))]) (st' := [.int (0)]) rfl ?_
                      have f1 : pN M 1 j < 4 := by omega
                      rw [show o_sec M j i l = (6, none, M) from by simp only [o_sec, f1, c3, c6, c8, c10, c12, not_true_eq_false, not_false_eq_true, if_true, if_false, ite_true, ite_false, reduceIte, reduceCtorEq, Classical.not_not, Bool.false_eq_true]]
                      exact x_ret (v := some (.int (0))) rfl rfl rfl ⟨rfl, _, fun _ => rfl, R.less (by omega) (by omega)⟩
                  · refine x_run 2 (pc' := 98) (lv' := [(0, .ref (X.1 8)), (1, .int (nI j)), (2, .int (nI i)), (3, .long (l))]) (st' := [.int (nI i), .ref (X.1 8)]) rfl ?_
                    refine x_rd (v := .int (bI (p_fresh M i))) (k' := 63) (as := [.ref (X.1 8), .int (nI i)]) (rest := []) (x_isV (np := 1) rfl rfl rfl R.c8 rfl) (k_fresh R hi) ?_
                    refine x_if (c := ¬ bI (p_fresh M i) = 0) (t := 109) rfl rfl (fun c14 => ?_) (fun c14 => ?_)
                    · replace c14 := bI_n0 c14
                      refine x_run 1 (pc' := 110) (lv' := [(0, .ref (X.1 8)), (1, .int (nI j)), (2, .int (nI i)), (3, .long (l))]) (st' := [.ref (X.1 8)]) rfl ?_
                      refine x_get (v := .int (0)) rfl rfl R.c8 rfl ?_
                      refine x_if (c := nI 0 ≤ nI 0) (t := 118) rfl rfl (fun c15 => ?_) (fun c15 => ?_)
                      · replace c15 := (nI_leI (by omega) (by omega)).mp c15
                        refine x_run 1 (pc' := 119) (lv' := [(0, .ref (X.1 8)), (1, .int (nI j)), (2, .int (nI i)), (3, .long (l))]) (st' := [.ref (X.1 8)]) rfl ?_
                        refine x_get (v := .ref (X.1 18)) rfl rfl R.c8 rfl ?_
                        refine x_run 3 (pc' := 125) (lv' := [(0, .ref (X.1 8)), (1, .int (nI j)), (2, .int (nI i)), (3, .long (l))]) (st' := [.int ((nI 4) * (nI j)), .ref (X.1 18)]) rfl ?_
                        rw [pk_mul]
                        refine x_run 1 (pc' := 126) (lv' := [(0, .ref (X.1 8)), (1, .int (nI j)), (2, .int (nI i)), (3, .long (l))]) (st' := [.ref (X.1 8), .int (nI (4 * j)), .ref (X.1 18)]) rfl ?_
                        refine x_get (v := .ref (X.1 17)) rfl rfl R.c8 rfl ?_
                        refine x_run 1 (pc' := 130) (lv' := [(0, .ref (X.1 8)), (1, .int (nI j)), (2, .int (nI i)), (3, .long (l))]) (st' := [.int (nI j), .ref (X.1 17), .int (nI (4 * j)), .ref (X.1 18)]) rfl ?_
                        refine x_iald (j := j) rfl R.c17 (mm_idx_nI (by omega) (by omega)) ?_
                        refine x_run 1 (pc' := 132) (lv' := [(0, .ref (X.1 8)), (1, .int (nI j)), (2, .int (nI i)), (3, .long (l))]) (st' := [.int ((nI (4 * j)) + (nI (pN M 1 j))), .ref (X.1 18)]) rfl ?_
                        rw [nI_add]
                        refine x_run 1 (pc' := 133) (lv' := [(0, .ref (X.1 8)), (1, .int (nI j)), (2, .int (nI i)), (3, .long (l))]) (st' := [.int (nI i), .int (nI ((4 * j) + (pN M 1 j))), .ref (X.1 18)]) rfl ?_
                        refine x_iast (j := (4 * j) + (pN M 1 j)) rfl R.c18 (mm_idx_nI (by omega) (by omega)) ?_
                        refine gen_h (A := Rep u v X P (sN M 2 ((4 * j) + (pN M 1 j)) (i)) ((0, z.2))) (R.mHold _ (wf_hold R0.wM hi)) (fun h R => ?_)
                        refine x_run 1 (pc' := 135) (lv' := [(0, .ref (X.1 8)), (1, .int (nI j)), (2, .int (nI i)), (3, .long (l))]) (st' := [.ref (X.1 8)]) rfl ?_
                        refine x_get (v := .ref (X.1 19)) rfl rfl R.c8 rfl ?_
                        refine x_run 3 (pc' := 141) (lv' := [(0, .ref (X.1 8)), (1, .int (nI j)), (2, .int (nI i)), (3, .long (l))]) (st' := [.int ((nI 4) * (nI j)), .ref (X.1 19)]) rfl ?_
                        rw [pk_mul]
                        refine x_run 1 (pc' := 142) (lv' := [(0, .ref (X.1 8)), (1, .int (nI j)), (2, .int (nI i)), (3, .long (l))]) (st' := [.ref (X.1 8), .int (nI (4 * j)), .ref (X.1 19)]) rfl ?_
                        refine x_get (v := .ref (X.1 17)) rfl rfl R.c8 rfl ?_
                        refine x_run 1 (pc' := 146) (lv' := [(0, .ref (X.1 8)), (1, .int (nI j)), (2, .int (nI i)), (3, .long (l))]) (st' := [.int (nI j), .ref (X.1 17), .int (nI (4 * j)), .ref (X.1 19)]) rfl ?_
                        refine x_iald (j := j) rfl R.c17 (mm_idx_nI (by omega) (by omega)) ?_
                        refine x_run 1 (pc' := 148) (lv' := [(0, .ref (X.1 8)), (1, .int (nI j)), (2, .int (nI i)), (3, .long (l))]) (st' := [.int ((nI (4 * j)) + (nI (pN M 1 j))), .ref (X.1 19)]) rfl ?_
                        rw [nI_add]
                        refine x_run 1 (pc' := 149) (lv' := [(0, .ref (X.1 8)), (1, .int (nI j)), (2, .int (nI i)), (3, .long (l))]) (st' := [.long (l), .int (nI ((4 * j) + (pN M 1 j))), .ref (X.1 19)]) rfl ?_
                        refine x_last (j := (4 * j) + (pN M 1 j)) rfl R.c19 (mm_idx_nI (by omega) (by omega)) ?_
                        refine gen_h (A := Rep u v X P (sL (sN M 2 ((4 * j) + (pN M 1 j)) (i)) 5 ((4 * j) + (pN M 1 j)) (l)) ((0, z.2))) (R.mLimit _) (fun h R => ?_)
                        refine x_run 1 (pc' := 151) (lv' := [(0, .ref (X.1 8)), (1, .int (nI j)), (2, .int (nI i)), (3, .long (l))]) (st' := [.ref (X.1 8)]) rfl ?_
                        refine x_get (v := .ref (X.1 17)) rfl rfl R.c8 rfl ?_
                        refine x_run 2 (pc' := 156) (lv' := [(0, .ref (X.1 8)), (1, .int (nI j)), (2, .int (nI i)), (3, .long (l))]) (st' := [.int (nI j), .ref (X.1 17), .int (nI j), .ref (X.1 17)]) rfl ?_
                        refine x_iald (j := j) rfl R.c17 (mm_idx_nI (by omega) (by omega)) ?_
                        refine x_run 2 (pc' := 159) (lv' := [(0, .ref (X.1 8)), (1, .int (nI j)), (2, .int (nI i)), (3, .long (l))]) (st' := [.int ((nI (pN M 1 j)) + (nI 1)), .int (nI j), .ref (X.1 17)]) rfl ?_
                        rw [nI_add]
                        refine x_iast (j := j) rfl R.c17 (mm_idx_nI (by omega) (by omega)) ?_
                        refine gen_h (A := Rep u v X P (sN (sL (sN M 2 ((4 * j) + (pN M 1 j)) (i)) 5 ((4 * j) + (pN M 1 j)) (l)) 1 j ((pN M 1 j) + 1)) ((0, z.2))) (R.mMany _ (wf_sec R0.wM hj (by omega) hi l)) (fun h R => ?_)
                        refine x_run 1 (pc' := 161) (lv' := [(0, .ref (X.1 8)), (1, .int (nI j)), (2, .int (nI i)), (3, .long (l))]) (st' := [.ref (X.1 8)]) rfl ?_
                        refine x_get (v := .ref (X.1 17)) rfl rfl R.c8 rfl ?_
                        refine x_run 1 (pc' := 165) (lv' := [(0, .ref (X.1 8)), (1, .int (nI j)), (2, .int (nI i)), (3, .long (l))]) (st' := [.int (nI j), .ref (X.1 17)]) rfl ?_
                        refine x_iald (j := j) rfl R.c17 (mm_idx_nI (by omega) (by omega)) ?_
                        have f1 : pN M 1 j < 4 := by omega
                        rw [show o_sec M j i l = (0, some (.int (nI (pN (p_sec M j i l) 1 j))), sI (p_sec M j i l) 5 i (pI M 5 i + 1)) from by simp only [o_sec, f1, c3, c6, c8, c10, c12, c14, not_true_eq_false, not_false_eq_true, if_true, if_false, ite_true, ite_false, reduceIte, reduceCtorEq, Classical.not_not, Bool.false_eq_true]]
                        exact x_ret (v := some (.int (nI (pN (sN (sL (sN M 2 ((4 * j) + (pN M 1 j)) (i)) 5 ((4 * j) + (pN M 1 j)) (l)) 1 j ((pN M 1 j) + 1)) 1 j)))) rfl rfl rfl ⟨rfl, _, fun _ => rfl, R.gh i _⟩
                      · replace c15 := mt (nI_leI (by omega) (by omega)).mpr c15
                        omega
                    · replace c14 := bI_0.mp (Classical.not_not.mp c14)
                      refine x_run 2 (pc' := 106) (lv' := [(0, .ref (X.1 8)), (1, .int (nI j)), (2, .int (nI i)), (3, .long (l))]) (st' := [.int (4), .ref (X.1 8)]) rfl ?_
                      refine x_put rfl rfl R.c8 rfl ?_
                      refine gen_h (A := Rep u v X P M ((4, z.2))) (R.mCode _) (fun h R => ?_)
                      refine x_run 1 (pc' := 110) (lv' := [(0, .ref (X.1 8)), (1, .int (nI j)), (2, .int (nI i)), (3, .long (l))]) (st' := [.ref (X.1 8)]) rfl ?_
                      refine x_get (v := .int (4)) rfl rfl R.c8 rfl ?_
                      refine x_if (c := nI 4 ≤ nI 0) (t := 118) rfl rfl (fun c16 => ?_) (fun c16 => ?_)
                      · replace c16 := (nI_leI (by omega) (by omega)).mp c16
                        omega
                      · replace c16 := mt (nI_leI (by omega) (by omega)).mpr c16
                        refine x_run 1 (pc' := 117) (lv' := [(0, .ref (X.1 8)), (1, .int (nI j)), (2, .int (nI i)), (3, .long (l))]) (st' := [.int (0)]) rfl ?_
                        have f1 : pN M 1 j < 4 := by omega
                        rw [show o_sec M j i l = (6, none, M) from by simp only [o_sec, f1, c3, c6, c8, c10, c12, c14, not_true_eq_false, not_false_eq_true, if_true, if_false, ite_true, ite_false, reduceIte, reduceCtorEq, Classical.not_not, Bool.false_eq_true]]
                        exact x_ret (v := some (.int (0))) rfl rfl rfl ⟨rfl, _, fun _ => rfl, R.less (by omega) (by omega)⟩
        · replace c4 := (nI_eq (by omega) (by omega)).mp (Classical.not_not.mp c4)
          refine x_run 2 (pc' := 51) (lv' := [(0, .ref (X.1 8)), (1, .int (nI j)), (2, .int (nI i)), (3, .long (l))]) (st' := [.int (3), .ref (X.1 8)]) rfl ?_
          refine x_put rfl rfl R.c8 rfl ?_
          refine gen_h (A := Rep u v X P M ((3, z.2))) (R.mCode _) (fun h R => ?_)
          refine x_run 1 (pc' := 55) (lv' := [(0, .ref (X.1 8)), (1, .int (nI j)), (2, .int (nI i)), (3, .long (l))]) (st' := [.ref (X.1 8)]) rfl ?_
          refine x_get (v := .int (3)) rfl rfl R.c8 rfl ?_
          refine x_if (c := ¬ nI 3 = nI 0) (t := 109) rfl rfl (fun c17 => ?_) (fun c17 => ?_)
          · replace c17 := mt (nI_eq (by omega) (by omega)).mpr c17
            refine x_run 1 (pc' := 110) (lv' := [(0, .ref (X.1 8)), (1, .int (nI j)), (2, .int (nI i)), (3, .long (l))]) (st' := [.ref (X.1 8)]) rfl ?_
            refine x_get (v := .int (3)) rfl rfl R.c8 rfl ?_
            refine x_if (c := nI 3 ≤ nI 0) (t := 118) rfl rfl (fun c18 => ?_) (fun c18 => ?_)
            · replace c18 := (nI_leI (by omega) (by omega)).mp c18
              omega
            · replace c18 := mt (nI_leI (by omega) (by omega)).mpr c18
              refine x_run 1 (pc' := 117) (lv' := [(0, .ref (X.1 8)), (1, .int (nI j)), (2, .int (nI i)), (3, .long (l))]) (st' := [.int (0)]) rfl ?_
              have f1 : ¬ pN M 1 j < 4 := by omega
              rw [show o_sec M j i l = (8, none, M) from by simp only [o_sec, f1, c3, not_true_eq_false, not_false_eq_true, if_true, if_false, ite_true, ite_false, reduceIte, reduceCtorEq, Classical.not_not, Bool.false_eq_true]]
              exact x_ret (v := some (.int (0))) rfl rfl rfl ⟨rfl, _, fun _ => rfl, R.less (by omega) (by omega)⟩
          · replace c17 := (nI_eq (by omega) (by omega)).mp (Classical.not_not.mp c17)
            omega
      · replace c3 := bI_0.mp (Classical.not_not.mp c3)
        refine x_run 2 (pc' := 51) (lv' := [(0, .ref (X.1 8)), (1, .int (nI j)), (2, .int (nI i)), (3, .long (l))]) (st' := [.int (2), .ref (X.1 8)]) rfl ?_
        refine x_put rfl rfl R.c8 rfl ?_
        refine gen_h (A := Rep u v X P M ((2, z.2))) (R.mCode _) (fun h R => ?_)
        refine x_run 1 (pc' := 55) (lv' := [(0, .ref (X.1 8)), (1, .int (nI j)), (2, .int (nI i)), (3, .long (l))]) (st' := [.ref (X.1 8)]) rfl ?_
        refine x_get (v := .int (2)) rfl rfl R.c8 rfl ?_
        refine x_if (c := ¬ nI 2 = nI 0) (t := 109) rfl rfl (fun c19 => ?_) (fun c19 => ?_)
        · replace c19 := mt (nI_eq (by omega) (by omega)).mpr c19
          refine x_run 1 (pc' := 110) (lv' := [(0, .ref (X.1 8)), (1, .int (nI j)), (2, .int (nI i)), (3, .long (l))]) (st' := [.ref (X.1 8)]) rfl ?_
          refine x_get (v := .int (2)) rfl rfl R.c8 rfl ?_
          refine x_if (c := nI 2 ≤ nI 0) (t := 118) rfl rfl (fun c20 => ?_) (fun c20 => ?_)
          · replace c20 := (nI_leI (by omega) (by omega)).mp c20
            omega
          · replace c20 := mt (nI_leI (by omega) (by omega)).mpr c20
            refine x_run 1 (pc' := 117) (lv' := [(0, .ref (X.1 8)), (1, .int (nI j)), (2, .int (nI i)), (3, .long (l))]) (st' := [.int (0)]) rfl ?_
            rw [show o_sec M j i l = (5, none, M) from by simp only [o_sec, c3, not_true_eq_false, not_false_eq_true, if_true, if_false, ite_true, ite_false, reduceIte, reduceCtorEq, Classical.not_not, Bool.false_eq_true]]
            exact x_ret (v := some (.int (0))) rfl rfl rfl ⟨rfl, _, fun _ => rfl, R.less (by omega) (by omega)⟩
        · replace c19 := (nI_eq (by omega) (by omega)).mp (Classical.not_not.mp c19)
          omega
    · replace c2 := bI_0.mp (Classical.not_not.mp c2)
      cases c2
theorem k_secAX (R : Rep u v X P M z h) {q : Int32} (hq : q < 0 ∨ nI (pa M) ≤ q) (c : Int32) (l : Int64) : Wx (d + 3) 73 0 (lv_args 0 [.ref (X.1 8), .int (q), .int (c), .long (l)]) [] h (mQ u v X P z (1, (some (.int 0)), M)) := by
  show Wx _ _ 0 [(0, .ref (X.1 8)), (1, .int (q)), (2, .int (c)), (3, .long (l))] [] h _
  refine x_run 3 (pc' := 3) (lv' := [(0, .ref (X.1 8)), (1, .int (q)), (2, .int (c)), (3, .long (l))]) (st' := [.int (q), .ref (X.1 8), .ref (X.1 8)]) rfl ?_
  refine x_rd (v := .int (bI (false))) (k' := 57) (as := [.ref (X.1 8), .int (q)]) (rest := [.ref (X.1 8)]) (x_isV (np := 1) rfl rfl rfl R.c8 rfl) (k_isAf R hq) ?_
  refine x_if (c := bI (false) = 0) (t := 17) rfl rfl (fun c1 => ?_) (fun c1 => ?_)
  · replace c1 := bI_0.mp c1
    refine x_run 2 (pc' := 51) (lv' := [(0, .ref (X.1 8)), (1, .int (q)), (2, .int (c)), (3, .long (l))]) (st' := [.int (1), .ref (X.1 8)]) rfl ?_
    refine x_put rfl rfl R.c8 rfl ?_
    refine gen_h (A := Rep u v X P M ((1, z.2))) (R.mCode _) (fun h R => ?_)
    refine x_run 1 (pc' := 55) (lv' := [(0, .ref (X.1 8)), (1, .int (q)), (2, .int (c)), (3, .long (l))]) (st' := [.ref (X.1 8)]) rfl ?_
    refine x_get (v := .int (1)) rfl rfl R.c8 rfl ?_
    refine x_if (c := ¬ nI 1 = nI 0) (t := 109) rfl rfl (fun c2 => ?_) (fun c2 => ?_)
    · replace c2 := mt (nI_eq (by omega) (by omega)).mpr c2
      refine x_run 1 (pc' := 110) (lv' := [(0, .ref (X.1 8)), (1, .int (q)), (2, .int (c)), (3, .long (l))]) (st' := [.ref (X.1 8)]) rfl ?_
      refine x_get (v := .int (1)) rfl rfl R.c8 rfl ?_
      refine x_if (c := nI 1 ≤ nI 0) (t := 118) rfl rfl (fun c3 => ?_) (fun c3 => ?_)
      · replace c3 := (nI_leI (by omega) (by omega)).mp c3
        omega
      · replace c3 := mt (nI_leI (by omega) (by omega)).mpr c3
        refine x_run 1 (pc' := 117) (lv' := [(0, .ref (X.1 8)), (1, .int (q)), (2, .int (c)), (3, .long (l))]) (st' := [.int (0)]) rfl ?_
        exact x_ret (v := some (.int (0))) rfl rfl rfl ⟨rfl, _, fun _ => rfl, R⟩
    · replace c2 := (nI_eq (by omega) (by omega)).mp (Classical.not_not.mp c2)
      omega
  · replace c1 := bI_n0 c1
    cases c1
theorem k_secCX (R : Rep u v X P M z h) (hj : j < pa M) {q : Int32} (hq : q < 0 ∨ nI (pn M) ≤ q) (l : Int64) : Wx (d + 3) 73 0 (lv_args 0 [.ref (X.1 8), .int (nI j), .int (q), .long (l)]) [] h (mQ u v X P z (1, (some (.int 0)), M)) := by
  show Wx _ _ 0 [(0, .ref (X.1 8)), (1, .int (nI j)), (2, .int (q)), (3, .long (l))] [] h _
  refine x_run 3 (pc' := 3) (lv' := [(0, .ref (X.1 8)), (1, .int (nI j)), (2, .int (q)), (3, .long (l))]) (st' := [.int (nI j), .ref (X.1 8), .ref (X.1 8)]) rfl ?_
  refine x_rd (v := .int (bI (true))) (k' := 57) (as := [.ref (X.1 8), .int (nI j)]) (rest := [.ref (X.1 8)]) (x_isV (np := 1) rfl rfl rfl R.c8 rfl) (k_isAt R hj) ?_
  refine x_if (c := bI (true) = 0) (t := 17) rfl rfl (fun c1 => ?_) (fun c1 => ?_)
  · replace c1 := bI_0.mp c1
    cases c1
  · replace c1 := bI_n0 c1
    refine x_run 2 (pc' := 11) (lv' := [(0, .ref (X.1 8)), (1, .int (nI j)), (2, .int (q)), (3, .long (l))]) (st' := [.int (q), .ref (X.1 8), .ref (X.1 8)]) rfl ?_
    refine x_rd (v := .int (bI (false))) (k' := 56) (as := [.ref (X.1 8), .int (q)]) (rest := [.ref (X.1 8)]) (x_isV (np := 1) rfl rfl rfl R.c8 rfl) (k_isCf R hq) ?_
    refine x_if (c := ¬ bI (false) = 0) (t := 21) rfl rfl (fun c2 => ?_) (fun c2 => ?_)
    · replace c2 := bI_n0 c2
      cases c2
    · replace c2 := bI_0.mp (Classical.not_not.mp c2)
      refine x_run 2 (pc' := 51) (lv' := [(0, .ref (X.1 8)), (1, .int (nI j)), (2, .int (q)), (3, .long (l))]) (st' := [.int (1), .ref (X.1 8)]) rfl ?_
      refine x_put rfl rfl R.c8 rfl ?_
      refine gen_h (A := Rep u v X P M ((1, z.2))) (R.mCode _) (fun h R => ?_)
      refine x_run 1 (pc' := 55) (lv' := [(0, .ref (X.1 8)), (1, .int (nI j)), (2, .int (q)), (3, .long (l))]) (st' := [.ref (X.1 8)]) rfl ?_
      refine x_get (v := .int (1)) rfl rfl R.c8 rfl ?_
      refine x_if (c := ¬ nI 1 = nI 0) (t := 109) rfl rfl (fun c3 => ?_) (fun c3 => ?_)
      · replace c3 := mt (nI_eq (by omega) (by omega)).mpr c3
        refine x_run 1 (pc' := 110) (lv' := [(0, .ref (X.1 8)), (1, .int (nI j)), (2, .int (q)), (3, .long (l))]) (st' := [.ref (X.1 8)]) rfl ?_
        refine x_get (v := .int (1)) rfl rfl R.c8 rfl ?_
        refine x_if (c := nI 1 ≤ nI 0) (t := 118) rfl rfl (fun c4 => ?_) (fun c4 => ?_)
        · replace c4 := (nI_leI (by omega) (by omega)).mp c4
          omega
        · replace c4 := mt (nI_leI (by omega) (by omega)).mpr c4
          refine x_run 1 (pc' := 117) (lv' := [(0, .ref (X.1 8)), (1, .int (nI j)), (2, .int (q)), (3, .long (l))]) (st' := [.int (0)]) rfl ?_
          exact x_ret (v := some (.int (0))) rfl rfl rfl ⟨rfl, _, fun _ => rfl, R⟩
      · replace c3 := (nI_eq (by omega) (by omega)).mp (Classical.not_not.mp c3)
        omega
end MOD3
