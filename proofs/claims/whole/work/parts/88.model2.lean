section MOD2
variable {u v d : Nat} {X : xX} {P M : pP} {z : zZ} {h : mm_H} {i j : Nat}
theorem k_serve (R : Rep u (v + 1) X P M z h) (hi : i < pn M) (c : Int64) : Wx (d + 2) 67 0 (lv_args 0 [.ref (X.1 8), .int (nI i), .long (c)]) [] h (fun r0 => r0.1 = .inl none ∧ Rep u v X P (p_serve (p_openM M i) M i c) z r0.2) := by
  have m60 := R.m60
  show Wx _ _ 0 [(0, .ref (X.1 8)), (1, .int (nI i)), (2, .long (c))] [] h _
  refine x_run 2 (pc' := 2) (lv' := [(0, .ref (X.1 8)), (1, .int (nI i)), (2, .long (c))]) (st' := [.ref (X.1 8), .ref (X.1 8)]) rfl ?_
  refine x_get (v := .long (pL M 7 0)) rfl rfl R.c8 rfl ?_
  refine x_run 2 (pc' := 7) (lv' := [(0, .ref (X.1 8)), (1, .int (nI i)), (2, .long (c))]) (st' := [.long ((pL M 7 0) - c), .ref (X.1 8)]) rfl ?_
  refine x_put rfl rfl R.c8 rfl ?_
  refine gen_h (A := Rep u (v + 1) X P (sL M 7 0 ((pL M 7 0) - c)) z) (R.mCash _) (fun h R => ?_)
  refine x_run 2 (pc' := 12) (lv' := [(0, .ref (X.1 8)), (1, .int (nI i)), (2, .long (c))]) (st' := [.int (nI i), .ref (X.1 8)]) rfl ?_
  refine x_rd (v := .int (bI (p_openM (sL M 7 0 ((pL M 7 0) - c)) i))) (k' := 62) (as := [.ref (X.1 8), .int (nI i)]) (rest := []) (x_isV (np := 1) rfl rfl rfl R.c8 rfl) (k_open R hi) ?_
  refine x_if (c := bI (p_openM (sL M 7 0 ((pL M 7 0) - c)) i) = 0) (t := 38) rfl rfl (fun c1 => ?_) (fun c1 => ?_)
  · replace c1 := bI_0.mp c1
    refine x_run 1 (pc' := 39) (lv' := [(0, .ref (X.1 8)), (1, .int (nI i)), (2, .long (c))]) (st' := [.ref (X.1 8)]) rfl ?_
    refine x_get (v := .ref (X.1 13)) rfl rfl R.c8 rfl ?_
    refine x_run 2 (pc' := 44) (lv' := [(0, .ref (X.1 8)), (1, .int (nI i)), (2, .long (c))]) (st' := [.int (nI i), .ref (X.1 13), .int (nI i), .ref (X.1 13)]) rfl ?_
    refine x_lald (j := i) rfl R.c13 (mm_idx_nI (by omega) (by omega)) ?_
    refine x_run 2 (pc' := 47) (lv' := [(0, .ref (X.1 8)), (1, .int (nI i)), (2, .long (c))]) (st' := [.long ((pL M 3 i) + c), .int (nI i), .ref (X.1 13)]) rfl ?_
    refine x_last (j := i) rfl R.c13 (mm_idx_nI (by omega) (by omega)) ?_
    refine gen_h (A := Rep u (v + 1) X P (sL (sL M 7 0 ((pL M 7 0) - c)) 3 i ((pL M 3 i) + c)) z) (R.mPaid _) (fun h R => ?_)
    refine x_run 4 (pc' := 52) (lv' := [(0, .ref (X.1 8)), (1, .int (nI i)), (2, .long (c))]) (st' := [.long (c), .int (nI i), .int (4), .ref (X.1 8)]) rfl ?_
    refine x_wr0 (A := Rep u v X P (p_note (sL (sL M 7 0 ((pL M 7 0) - c)) 3 i ((pL M 3 i) + c)) 4 (nI i) c) z) (k' := 59) (as := [.ref (X.1 8), .int (4), .int (nI i), .long (c)]) (rest := []) (x_isV (np := 3) rfl rfl rfl R.c8 rfl) (k_note R _ _ _) (fun h R => ?_)
    refine x_ret (v := none) rfl rfl rfl ⟨?_, ?_⟩
    · rfl
    · have e : p_openM M i = false := c1
      show Rep u v X P (p_serve (p_openM M i) M i c) z h
      rw [e]
      exact R
  · replace c1 := bI_n0 c1
    refine x_run 1 (pc' := 19) (lv' := [(0, .ref (X.1 8)), (1, .int (nI i)), (2, .long (c))]) (st' := [.ref (X.1 8)]) rfl ?_
    refine x_get (v := .ref (X.1 14)) rfl rfl R.c8 rfl ?_
    refine x_run 2 (pc' := 24) (lv' := [(0, .ref (X.1 8)), (1, .int (nI i)), (2, .long (c))]) (st' := [.int (nI i), .ref (X.1 14), .int (nI i), .ref (X.1 14)]) rfl ?_
    refine x_lald (j := i) rfl R.c14 (mm_idx_nI (by omega) (by omega)) ?_
    refine x_run 2 (pc' := 27) (lv' := [(0, .ref (X.1 8)), (1, .int (nI i)), (2, .long (c))]) (st' := [.long ((pL M 4 i) + c), .int (nI i), .ref (X.1 14)]) rfl ?_
    refine x_last (j := i) rfl R.c14 (mm_idx_nI (by omega) (by omega)) ?_
    refine gen_h (A := Rep u (v + 1) X P (sL (sL M 7 0 ((pL M 7 0) - c)) 4 i ((pL M 4 i) + c)) z) (R.mRes _) (fun h R => ?_)
    refine x_run 4 (pc' := 32) (lv' := [(0, .ref (X.1 8)), (1, .int (nI i)), (2, .long (c))]) (st' := [.long (c), .int (nI i), .int (5), .ref (X.1 8)]) rfl ?_
    refine x_wr0 (A := Rep u v X P (p_note (sL (sL M 7 0 ((pL M 7 0) - c)) 4 i ((pL M 4 i) + c)) 5 (nI i) c) z) (k' := 59) (as := [.ref (X.1 8), .int (5), .int (nI i), .long (c)]) (rest := []) (x_isV (np := 3) rfl rfl rfl R.c8 rfl) (k_note R _ _ _) (fun h R => ?_)
    refine x_run 1 (pc' := 55) (lv' := [(0, .ref (X.1 8)), (1, .int (nI i)), (2, .long (c))]) (st' := []) rfl ?_
    refine x_ret (v := none) rfl rfl rfl ⟨?_, ?_⟩
    · rfl
    · have e : p_openM M i = true := c1
      show Rep u v X P (p_serve (p_openM M i) M i c) z h
      rw [e]
      exact R
theorem k_release (R : Rep u (v + 1) X P M z h) (hi : i < pn M) (c : Int64) : Wx (d + 1) 68 0 (lv_args 0 [.ref (X.1 8), .int (nI i), .long (c)]) [] h (fun r0 => r0.1 = .inl none ∧ Rep u v X P (p_release M i c) z r0.2) := by
  have m60 := R.m60
  show Wx _ _ 0 [(0, .ref (X.1 8)), (1, .int (nI i)), (2, .long (c))] [] h _
  refine x_run 1 (pc' := 1) (lv' := [(0, .ref (X.1 8)), (1, .int (nI i)), (2, .long (c))]) (st' := [.ref (X.1 8)]) rfl ?_
  refine x_get (v := .ref (X.1 14)) rfl rfl R.c8 rfl ?_
  refine x_run 2 (pc' := 6) (lv' := [(0, .ref (X.1 8)), (1, .int (nI i)), (2, .long (c))]) (st' := [.int (nI i), .ref (X.1 14), .int (nI i), .ref (X.1 14)]) rfl ?_
  refine x_lald (j := i) rfl R.c14 (mm_idx_nI (by omega) (by omega)) ?_
  refine x_run 2 (pc' := 9) (lv' := [(0, .ref (X.1 8)), (1, .int (nI i)), (2, .long (c))]) (st' := [.long ((pL M 4 i) - c), .int (nI i), .ref (X.1 14)]) rfl ?_
  refine x_last (j := i) rfl R.c14 (mm_idx_nI (by omega) (by omega)) ?_
  refine gen_h (A := Rep u (v + 1) X P (sL M 4 i ((pL M 4 i) - c)) z) (R.mRes _) (fun h R => ?_)
  refine x_run 2 (pc' := 12) (lv' := [(0, .ref (X.1 8)), (1, .int (nI i)), (2, .long (c))]) (st' := [.ref (X.1 8), .ref (X.1 8)]) rfl ?_
  refine x_get (v := .long (pL M 7 0)) rfl rfl R.c8 rfl ?_
  refine x_run 2 (pc' := 17) (lv' := [(0, .ref (X.1 8)), (1, .int (nI i)), (2, .long (c))]) (st' := [.long ((pL M 7 0) + c), .ref (X.1 8)]) rfl ?_
  refine x_put rfl rfl R.c8 rfl ?_
  refine gen_h (A := Rep u (v + 1) X P (sL (sL M 4 i ((pL M 4 i) - c)) 7 0 ((pL M 7 0) + c)) z) (R.mCash _) (fun h R => ?_)
  refine x_run 4 (pc' := 25) (lv' := [(0, .ref (X.1 8)), (1, .int (nI i)), (2, .long (c))]) (st' := [.long (c), .int (nI i), .int (7), .ref (X.1 8)]) rfl ?_
  refine x_wr0 (A := Rep u v X P (p_note (sL (sL M 4 i ((pL M 4 i) - c)) 7 0 ((pL M 7 0) + c)) 7 (nI i) c) z) (k' := 59) (as := [.ref (X.1 8), .int (7), .int (nI i), .long (c)]) (rest := []) (x_isV (np := 3) rfl rfl rfl R.c8 rfl) (k_note R _ _ _) (fun h R => ?_)
  refine x_ret (v := none) rfl rfl rfl ⟨?_, ?_⟩
  · rfl
  · exact R
theorem k_pay (R : Rep u (v + 1) X P M z h) (hi : i < pn M) (c : Int64) : Wx (d + 1) 86 0 (lv_args 0 [.ref (X.1 8), .int (nI i), .long (c)]) [] h (fun r0 => r0.1 = .inl none ∧ Rep u v X P (p_pay M i c) z r0.2) := by
  have m60 := R.m60
  show Wx _ _ 0 [(0, .ref (X.1 8)), (1, .int (nI i)), (2, .long (c))] [] h _
  refine x_run 2 (pc' := 2) (lv' := [(0, .ref (X.1 8)), (1, .int (nI i)), (2, .long (c))]) (st' := [.ref (X.1 8), .ref (X.1 8)]) rfl ?_
  refine x_get (v := .long (pL M 7 0)) rfl rfl R.c8 rfl ?_
  refine x_run 2 (pc' := 7) (lv' := [(0, .ref (X.1 8)), (1, .int (nI i)), (2, .long (c))]) (st' := [.long ((pL M 7 0) - c), .ref (X.1 8)]) rfl ?_
  refine x_put rfl rfl R.c8 rfl ?_
  refine gen_h (A := Rep u (v + 1) X P (sL M 7 0 ((pL M 7 0) - c)) z) (R.mCash _) (fun h R => ?_)
  refine x_run 1 (pc' := 11) (lv' := [(0, .ref (X.1 8)), (1, .int (nI i)), (2, .long (c))]) (st' := [.ref (X.1 8)]) rfl ?_
  refine x_get (v := .ref (X.1 13)) rfl rfl R.c8 rfl ?_
  refine x_run 2 (pc' := 16) (lv' := [(0, .ref (X.1 8)), (1, .int (nI i)), (2, .long (c))]) (st' := [.int (nI i), .ref (X.1 13), .int (nI i), .ref (X.1 13)]) rfl ?_
  refine x_lald (j := i) rfl R.c13 (mm_idx_nI (by omega) (by omega)) ?_
  refine x_run 2 (pc' := 19) (lv' := [(0, .ref (X.1 8)), (1, .int (nI i)), (2, .long (c))]) (st' := [.long ((pL M 3 i) + c), .int (nI i), .ref (X.1 13)]) rfl ?_
  refine x_last (j := i) rfl R.c13 (mm_idx_nI (by omega) (by omega)) ?_
  refine gen_h (A := Rep u (v + 1) X P (sL (sL M 7 0 ((pL M 7 0) - c)) 3 i ((pL M 3 i) + c)) z) (R.mPaid _) (fun h R => ?_)
  refine x_run 4 (pc' := 25) (lv' := [(0, .ref (X.1 8)), (1, .int (nI i)), (2, .long (c))]) (st' := [.long (c), .int (nI i), .int (8), .ref (X.1 8)]) rfl ?_
  refine x_wr0 (A := Rep u v X P (p_note (sL (sL M 7 0 ((pL M 7 0) - c)) 3 i ((pL M 3 i) + c)) 8 (nI i) c) z) (k' := 59) (as := [.ref (X.1 8), .int (8), .int (nI i), .long (c)]) (rest := []) (x_isV (np := 3) rfl rfl rfl R.c8 rfl) (k_note R _ _ _) (fun h R => ?_)
  refine x_ret (v := none) rfl rfl rfl ⟨?_, ?_⟩
  · rfl
  · exact R
theorem k_settled2 (R : Rep u (v + 1 + 1) X P M z h) (hi : i < pn M) {c : Int64} (hc : c = p_resC M i) : Wx (d + 3) 69 68 [(2, .long (c)), (0, .ref (X.1 8)), (1, .int (nI i))] [] h (fun r0 => r0.1 = .inl (some (.long (p_resC M i))) ∧ Rep u v X P (p_release (p_res1 M i) i (pL (p_res1 M i) 4 i)) z r0.2) := by
  have m60 := R.m60
  refine x_run 1 (pc' := 69) (lv' := [(2, .long (c)), (0, .ref (X.1 8)), (1, .int (nI i))]) (st' := [.ref (X.1 8)]) rfl ?_
  refine x_get (v := .ref (X.1 13)) rfl rfl R.c8 rfl ?_
  refine x_run 2 (pc' := 74) (lv' := [(2, .long (c)), (0, .ref (X.1 8)), (1, .int (nI i))]) (st' := [.int (nI i), .ref (X.1 13), .int (nI i), .ref (X.1 13)]) rfl ?_
  refine x_lald (j := i) rfl R.c13 (mm_idx_nI (by omega) (by omega)) ?_
  refine x_run 2 (pc' := 77) (lv' := [(2, .long (c)), (0, .ref (X.1 8)), (1, .int (nI i))]) (st' := [.long ((pL M 3 i) + c), .int (nI i), .ref (X.1 13)]) rfl ?_
  refine x_last (j := i) rfl R.c13 (mm_idx_nI (by omega) (by omega)) ?_
  refine gen_h (A := Rep u (v + 1 + 1) X P (sL M 3 i ((pL M 3 i) + c)) z) (R.mPaid _) (fun h R => ?_)
  refine x_run 1 (pc' := 79) (lv' := [(2, .long (c)), (0, .ref (X.1 8)), (1, .int (nI i))]) (st' := [.ref (X.1 8)]) rfl ?_
  refine x_get (v := .ref (X.1 14)) rfl rfl R.c8 rfl ?_
  refine x_run 2 (pc' := 84) (lv' := [(2, .long (c)), (0, .ref (X.1 8)), (1, .int (nI i))]) (st' := [.int (nI i), .ref (X.1 14), .int (nI i), .ref (X.1 14)]) rfl ?_
  refine x_lald (j := i) rfl R.c14 (mm_idx_nI (by omega) (by omega)) ?_
  refine x_run 2 (pc' := 87) (lv' := [(2, .long (c)), (0, .ref (X.1 8)), (1, .int (nI i))]) (st' := [.long ((pL M 4 i) - c), .int (nI i), .ref (X.1 14)]) rfl ?_
  refine x_last (j := i) rfl R.c14 (mm_idx_nI (by omega) (by omega)) ?_
  refine gen_h (A := Rep u (v + 1 + 1) X P (sL (sL M 3 i ((pL M 3 i) + c)) 4 i ((pL M 4 i) - c)) z) (R.mRes _) (fun h R => ?_)
  rw [sL_comm M (show (3 : Nat) ≠ 4 by decide)] at R
  replace R : Rep u (v + 1 + 1) X P (sL (sL M 4 i (pL M 4 i - c)) 3 i (pL M 3 i + c)) z h := R
  refine x_run 4 (pc' := 93) (lv' := [(2, .long (c)), (0, .ref (X.1 8)), (1, .int (nI i))]) (st' := [.long (c), .int (nI i), .int (6), .ref (X.1 8)]) rfl ?_
  refine x_wr0 (A := Rep u (v + 1) X P (p_note (sL (sL M 4 i (pL M 4 i - c)) 3 i (pL M 3 i + c)) 6 (nI i) c) z) (k' := 59) (as := [.ref (X.1 8), .int (6), .int (nI i), .long (c)]) (rest := []) (x_isV (np := 3) rfl rfl rfl R.c8 rfl) (k_note R _ _ _) (fun h R => ?_)
  refine x_run 3 (pc' := 99) (lv' := [(2, .long (c)), (0, .ref (X.1 8)), (1, .int (nI i))]) (st' := [.ref (X.1 8), .int (nI i), .ref (X.1 8)]) rfl ?_
  refine x_get (v := .ref (X.1 14)) rfl rfl R.c8 rfl ?_
  refine x_run 1 (pc' := 103) (lv' := [(2, .long (c)), (0, .ref (X.1 8)), (1, .int (nI i))]) (st' := [.int (nI i), .ref (X.1 14), .int (nI i), .ref (X.1 8)]) rfl ?_
  refine x_lald (j := i) rfl R.c14 (mm_idx_nI (by omega) (by omega)) ?_
  refine x_wr0 (A := Rep u v X P (p_release (p_note (sL (sL M 4 i (pL M 4 i - c)) 3 i (pL M 3 i + c)) 6 (nI i) c) i (pL (sL M 4 i (pL M 4 i - c)) 4 i)) z) (k' := 68) (as := [.ref (X.1 8), .int (nI i), .long (pL (sL M 4 i (pL M 4 i - c)) 4 i)]) (rest := []) (x_isV (np := 2) rfl rfl rfl R.c8 rfl) (k_release R hi _) (fun h R => ?_)
  refine x_run 1 (pc' := 108) (lv' := [(2, .long (c)), (0, .ref (X.1 8)), (1, .int (nI i))]) (st' := [.long (c)]) rfl ?_
  subst hc
  exact x_ret (v := some (.long (p_resC M i))) rfl rfl rfl ⟨rfl, R⟩
theorem k_settled (R : Rep u (v + 1 + 1) X P M z h) (hi : i < pn M) : Wx (d + 3) 69 0 (lv_args 0 [.ref (X.1 8), .int (nI i)]) [] h (fun r0 => r0.1 = .inl (some (.long (p_resV (p_openM M i) M i))) ∧ Rep u v X P (p_resolve (p_openM M i) M i) z r0.2) := by
  have m60 := R.m60
  show Wx _ _ 0 [(0, .ref (X.1 8)), (1, .int (nI i))] [] h _
  refine x_run 2 (pc' := 2) (lv' := [(0, .ref (X.1 8)), (1, .int (nI i))]) (st' := [.int (nI i), .ref (X.1 8)]) rfl ?_
  refine x_rd (v := .int (bI (p_openM M i))) (k' := 62) (as := [.ref (X.1 8), .int (nI i)]) (rest := []) (x_isV (np := 1) rfl rfl rfl R.c8 rfl) (k_open R hi) ?_
  refine x_if (c := ¬ bI (p_openM M i) = 0) (t := 19) rfl rfl (fun c1 => ?_) (fun c1 => ?_)
  · replace c1 := bI_n0 c1
    refine x_run 1 (pc' := 20) (lv' := [(0, .ref (X.1 8)), (1, .int (nI i))]) (st' := [.long (0)]) rfl ?_
    refine x_ret (v := some (.long (0))) rfl rfl rfl ⟨?_, ?_⟩
    · rw [show p_resV (p_openM M i) M i = 0 from if_pos (Or.inl c1)]
    · show Rep u v X P (p_resolve (p_openM M i) M i) z h
      rw [p_resolve, if_pos (Or.inl c1)]
      exact R.less (Nat.le_refl _) (by omega)
  · replace c1 := bI_0.mp (Classical.not_not.mp c1)
    refine x_run 1 (pc' := 9) (lv' := [(0, .ref (X.1 8)), (1, .int (nI i))]) (st' := [.ref (X.1 8)]) rfl ?_
    refine x_get (v := .ref (X.1 14)) rfl rfl R.c8 rfl ?_
    refine x_run 1 (pc' := 13) (lv' := [(0, .ref (X.1 8)), (1, .int (nI i))]) (st' := [.int (nI i), .ref (X.1 14)]) rfl ?_
    refine x_lald (j := i) rfl R.c14 (mm_idx_nI (by omega) (by omega)) ?_
    refine x_run 1 (pc' := 15) (lv' := [(0, .ref (X.1 8)), (1, .int (nI i))]) (st' := [.long (0), .long (pL M 4 i)]) rfl ?_
    refine x_lne (t := 21) rfl rfl rfl (fun c2 => ?_) (fun c2 => ?_)
    · refine x_run 2 (pc' := 23) (lv' := [(0, .ref (X.1 8)), (1, .int (nI i))]) (st' := [.int (nI i), .ref (X.1 8)]) rfl ?_
      refine x_rd (v := .long (p_dueOf M i)) (k' := 65) (as := [.ref (X.1 8), .int (nI i)]) (rest := []) (x_isV (np := 1) rfl rfl rfl R.c8 rfl) (k_dueOf R hi) ?_
      refine x_run 1 (pc' := 27) (lv' := [(0, .ref (X.1 8)), (1, .int (nI i))]) (st' := [.ref (X.1 8), .long (p_dueOf M i)]) rfl ?_
      refine x_get (v := .ref (X.1 13)) rfl rfl R.c8 rfl ?_
      refine x_run 1 (pc' := 31) (lv' := [(0, .ref (X.1 8)), (1, .int (nI i))]) (st' := [.int (nI i), .ref (X.1 13), .long (p_dueOf M i)]) rfl ?_
      refine x_lald (j := i) rfl R.c13 (mm_idx_nI (by omega) (by omega)) ?_
      refine x_run 4 (pc' := 36) (lv' := [(2, .long ((p_dueOf M i) - (pL M 3 i))), (0, .ref (X.1 8)), (1, .int (nI i))]) (st' := [.long (0), .long ((p_dueOf M i) - (pL M 3 i))]) rfl ?_
      refine x_lge (t := 44) rfl rfl rfl (fun c3 => ?_) (fun c3 => ?_)
      · refine x_run 4 (pc' := 48) (lv' := [(2, .long ((p_dueOf M i) - (pL M 3 i))), (0, .ref (X.1 8)), (1, .int (nI i))]) (st' := [.ref (X.1 8), .long ((p_dueOf M i) - (pL M 3 i))]) rfl ?_
        refine x_get (v := .ref (X.1 14)) rfl rfl R.c8 rfl ?_
        refine x_run 1 (pc' := 52) (lv' := [(2, .long ((p_dueOf M i) - (pL M 3 i))), (0, .ref (X.1 8)), (1, .int (nI i))]) (st' := [.int (nI i), .ref (X.1 14), .long ((p_dueOf M i) - (pL M 3 i))]) rfl ?_
        refine x_lald (j := i) rfl R.c14 (mm_idx_nI (by omega) (by omega)) ?_
        refine x_lle (t := 66) rfl rfl rfl (fun c4 => ?_) (fun c4 => ?_)
        · refine x_run 2 (pc' := 68) (lv' := [(2, .long ((p_dueOf M i) - (pL M 3 i))), (0, .ref (X.1 8)), (1, .int (nI i))]) (st' := []) rfl ?_
          refine x_lv (a := [(2, .long ((p_dueOf M i) - (pL M 3 i))), (0, .ref (X.1 8)), (1, .int (nI i))]) rfl rfl ⟨rfl, rfl, rfl, trivial⟩ ?_
          rw [show p_resV (p_openM M i) M i = p_resC M i from if_neg (fun e => by rcases e with e | e; exact absurd (c1.symm.trans e) (by decide); exact c2 e), show p_resolve (p_openM M i) M i = p_release (p_res1 M i) i (pL (p_res1 M i) 4 i) from if_neg (fun e => by rcases e with e | e; exact absurd (c1.symm.trans e) (by decide); exact c2 e)]
          exact k_settled2 R hi (by rw [p_resC, p_resA, if_neg (Int64.not_lt.mpr c3), if_neg (Int64.not_lt.mpr c4)])
        · refine x_run 1 (pc' := 58) (lv' := [(2, .long ((p_dueOf M i) - (pL M 3 i))), (0, .ref (X.1 8)), (1, .int (nI i))]) (st' := [.ref (X.1 8)]) rfl ?_
          refine x_get (v := .ref (X.1 14)) rfl rfl R.c8 rfl ?_
          refine x_run 1 (pc' := 62) (lv' := [(2, .long ((p_dueOf M i) - (pL M 3 i))), (0, .ref (X.1 8)), (1, .int (nI i))]) (st' := [.int (nI i), .ref (X.1 14)]) rfl ?_
          refine x_lald (j := i) rfl R.c14 (mm_idx_nI (by omega) (by omega)) ?_
          refine x_run 2 (pc' := 68) (lv' := [(2, .long (pL M 4 i)), (0, .ref (X.1 8)), (1, .int (nI i))]) (st' := []) rfl ?_
          refine x_lv (a := [(2, .long (pL M 4 i)), (0, .ref (X.1 8)), (1, .int (nI i))]) rfl rfl ⟨rfl, rfl, rfl, trivial⟩ ?_
          rw [show p_resV (p_openM M i) M i = p_resC M i from if_neg (fun e => by rcases e with e | e; exact absurd (c1.symm.trans e) (by decide); exact c2 e), show p_resolve (p_openM M i) M i = p_release (p_res1 M i) i (pL (p_res1 M i) 4 i) from if_neg (fun e => by rcases e with e | e; exact absurd (c1.symm.trans e) (by decide); exact c2 e)]
          exact k_settled2 R hi (by rw [p_resC, p_resA, if_neg (Int64.not_lt.mpr c3), if_pos (Int64.not_le.mp c4)])
      · refine x_run 5 (pc' := 48) (lv' := [(2, .long (0)), (0, .ref (X.1 8)), (1, .int (nI i))]) (st' := [.ref (X.1 8), .long (0)]) rfl ?_
        refine x_get (v := .ref (X.1 14)) rfl rfl R.c8 rfl ?_
        refine x_run 1 (pc' := 52) (lv' := [(2, .long (0)), (0, .ref (X.1 8)), (1, .int (nI i))]) (st' := [.int (nI i), .ref (X.1 14), .long (0)]) rfl ?_
        refine x_lald (j := i) rfl R.c14 (mm_idx_nI (by omega) (by omega)) ?_
        refine x_lle (t := 66) rfl rfl rfl (fun c5 => ?_) (fun c5 => ?_)
        · refine x_run 2 (pc' := 68) (lv' := [(2, .long (0)), (0, .ref (X.1 8)), (1, .int (nI i))]) (st' := []) rfl ?_
          refine x_lv (a := [(2, .long (0)), (0, .ref (X.1 8)), (1, .int (nI i))]) rfl rfl ⟨rfl, rfl, rfl, trivial⟩ ?_
          rw [show p_resV (p_openM M i) M i = p_resC M i from if_neg (fun e => by rcases e with e | e; exact absurd (c1.symm.trans e) (by decide); exact c2 e), show p_resolve (p_openM M i) M i = p_release (p_res1 M i) i (pL (p_res1 M i) 4 i) from if_neg (fun e => by rcases e with e | e; exact absurd (c1.symm.trans e) (by decide); exact c2 e)]
          exact k_settled2 R hi (by rw [p_resC, p_resA, if_pos (Int64.not_le.mp c3), if_neg (Int64.not_lt.mpr c5)])
        · refine x_run 1 (pc' := 58) (lv' := [(2, .long (0)), (0, .ref (X.1 8)), (1, .int (nI i))]) (st' := [.ref (X.1 8)]) rfl ?_
          refine x_get (v := .ref (X.1 14)) rfl rfl R.c8 rfl ?_
          refine x_run 1 (pc' := 62) (lv' := [(2, .long (0)), (0, .ref (X.1 8)), (1, .int (nI i))]) (st' := [.int (nI i), .ref (X.1 14)]) rfl ?_
          refine x_lald (j := i) rfl R.c14 (mm_idx_nI (by omega) (by omega)) ?_
          refine x_run 2 (pc' := 68) (lv' := [(2, .long (pL M 4 i)), (0, .ref (X.1 8)), (1, .int (nI i))]) (st' := []) rfl ?_
          refine x_lv (a := [(2, .long (pL M 4 i)), (0, .ref (X.1 8)), (1, .int (nI i))]) rfl rfl ⟨rfl, rfl, rfl, trivial⟩ ?_
          rw [show p_resV (p_openM M i) M i = p_resC M i from if_neg (fun e => by rcases e with e | e; exact absurd (c1.symm.trans e) (by decide); exact c2 e), show p_resolve (p_openM M i) M i = p_release (p_res1 M i) i (pL (p_res1 M i) 4 i) from if_neg (fun e => by rcases e with e | e; exact absurd (c1.symm.trans e) (by decide); exact c2 e)]
          exact k_settled2 R hi (by rw [p_resC, p_resA, if_pos (Int64.not_le.mp c3), if_pos (Int64.not_le.mp c5)])
    · refine x_run 1 (pc' := 20) (lv' := [(0, .ref (X.1 8)), (1, .int (nI i))]) (st' := [.long (0)]) rfl ?_
      refine x_ret (v := some (.long (0))) rfl rfl rfl ⟨?_, ?_⟩
      · rw [show p_resV (p_openM M i) M i = 0 from if_pos (Or.inr c2)]
      · show Rep u v X P (p_resolve (p_openM M i) M i) z h
        rw [p_resolve, if_pos (Or.inr c2)]
        exact R.less (Nat.le_refl _) (by omega)
theorem k_serveS {r l : Nat} {Q : mm_O × mm_H → Prop} {acc c : Int64} (hr : r < 8) (R : Rep u (v + 1) X P M z h) (hi : i < pn M) (hc : c = p_cents M i (nI (pN M 3 r))) (k1 : ∀ h, Rep u v X P (p_serve (p_openM M i) M i (p_cents M i (nI (pN M 3 r)))) z h → Wx (d + 3) 82 14 [(5, .int (nI (i + 1))), (4, .int (nI r)), (2, .long (acc + p_cents M i (nI (pN M 3 r)))), (0, .ref (X.1 8)), (1, .int (nI l))] [] h Q) (h0 : 0 ≤ pL M 7 0) : Wx (d + 3) 82 75 [(6, .long (c)), (5, .int (nI i)), (4, .int (nI r)), (2, .long (acc)), (0, .ref (X.1 8)), (1, .int (nI l))] [] h Q := by
  have m60 := R.m60
  refine x_run 2 (pc' := 78) (lv' := [(6, .long (c)), (5, .int (nI i)), (4, .int (nI r)), (2, .long (acc)), (0, .ref (X.1 8)), (1, .int (nI l))]) (st' := [.long (0), .long (c)]) rfl ?_
  refine x_lle (t := 95) rfl rfl rfl (fun c1 => ?_) (fun c1 => ?_)
  · refine x_run 1 (pc' := 98) (lv' := [(5, .int (nI i + 1)), (6, .long (c)), (4, .int (nI r)), (2, .long (acc)), (0, .ref (X.1 8)), (1, .int (nI l))]) (st' := []) rfl ?_
    rw [nI_1]
    refine x_run 1 (pc' := 14) (lv' := [(5, .int (nI (i + 1))), (6, .long (c)), (4, .int (nI r)), (2, .long (acc)), (0, .ref (X.1 8)), (1, .int (nI l))]) (st' := []) rfl ?_
    refine x_lv (a := [(5, .int (nI (i + 1))), (4, .int (nI r)), (2, .long (acc)), (0, .ref (X.1 8)), (1, .int (nI l))]) rfl rfl ⟨rfl, rfl, rfl, rfl, rfl, trivial⟩ ?_
    have e : p_cents M i (nI (pN M 3 r)) = 0 := Int64.le_antisymm (hc ▸ c1) (cents_pos i _ h0)
    rw [e, serve_0, Int64.add_zero] at k1
    exact k1 h (R.less (Nat.le_refl _) (by omega))
  · refine x_run 3 (pc' := 87) (lv' := [(6, .long (c)), (5, .int (nI i)), (4, .int (nI r)), (2, .long (acc)), (0, .ref (X.1 8)), (1, .int (nI l))]) (st' := [.long (c), .int (nI i), .ref (X.1 8)]) rfl ?_
    refine x_wr0 (A := Rep u v X P (p_serve (p_openM M i) M i c) z) (k' := 67) (as := [.ref (X.1 8), .int (nI i), .long (c)]) (rest := []) (x_isV (np := 2) rfl rfl rfl R.c8 rfl) (k_serve R hi _) (fun h R => ?_)
    refine x_run 5 (pc' := 98) (lv' := [(5, .int (nI i + 1)), (2, .long (acc + c)), (6, .long (c)), (4, .int (nI r)), (0, .ref (X.1 8)), (1, .int (nI l))]) (st' := []) rfl ?_
    rw [nI_1]
    refine x_run 1 (pc' := 14) (lv' := [(5, .int (nI (i + 1))), (2, .long (acc + c)), (6, .long (c)), (4, .int (nI r)), (0, .ref (X.1 8)), (1, .int (nI l))]) (st' := []) rfl ?_
    refine x_lv (a := [(5, .int (nI (i + 1))), (4, .int (nI r)), (2, .long (acc + c)), (0, .ref (X.1 8)), (1, .int (nI l))]) rfl rfl ⟨rfl, rfl, rfl, rfl, rfl, trivial⟩ ?_
    subst hc
    exact k1 h R
theorem k_serveI {r l : Nat} (hr : r < 8) (hl : l < 8) {Q : mm_O × mm_H → Prop} : ∀ (m : Nat) (i : Nat) (acc : Int64) (M : pP) (h : mm_H), Rep u (v + m) X P M z h → i + m = pn M ∧ 0 ≤ pL M 7 0 → (∀ h, Rep u v X P ((p_serveI p_openM r m i M acc).1) z h → Wx (d + 3) 82 101 [(5, .int (nI (i + m))), (4, .int (nI r)), (2, .long (p_serveI p_openM r m i M acc).2), (0, .ref (X.1 8)), (1, .int (nI l))] [] h Q) → Wx (d + 3) 82 14 [(5, .int (nI i)), (4, .int (nI r)), (2, .long (acc)), (0, .ref (X.1 8)), (1, .int (nI l))] [] h Q := by
  intro m
  induction m with
  | zero =>
    intro i acc M h R hm kk
    obtain ⟨hm, h0⟩ := hm
    have m60 := R.m60
    refine x_run 2 (pc' := 17) (lv' := [(5, .int (nI i)), (4, .int (nI r)), (2, .long (acc)), (0, .ref (X.1 8)), (1, .int (nI l))]) (st' := [.ref (X.1 8), .int (nI i)]) rfl ?_
    refine x_get (v := .int (nI (pn M))) rfl rfl R.c8 rfl ?_
    refine x_if (c := nI (pn M) ≤ nI i) (t := 101) rfl rfl (fun c1 => ?_) (fun c1 => ?_)
    · replace c1 := (nI_leI (by omega) (by omega)).mp c1
      refine x_lv (a := [(5, .int (nI i)), (4, .int (nI r)), (2, .long (acc)), (0, .ref (X.1 8)), (1, .int (nI l))]) rfl rfl ⟨rfl, rfl, rfl, rfl, rfl, trivial⟩ ?_
      exact kk h R
    · replace c1 := mt (nI_leI (by omega) (by omega)).mpr c1
      omega
  | succ m ih =>
    intro i acc M h R hm kk
    have R : Rep u (v + m + 1) X P M z h := R
    obtain ⟨hm, h0⟩ := hm
    have m60 := R.m60
    have hi : i < pn M := by omega
    have r8 := R.wM.rk hi
    rw [show i + (m + 1) = i + 1 + m by omega] at kk
    refine x_run 2 (pc' := 17) (lv' := [(5, .int (nI i)), (4, .int (nI r)), (2, .long (acc)), (0, .ref (X.1 8)), (1, .int (nI l))]) (st' := [.ref (X.1 8), .int (nI i)]) rfl ?_
    refine x_get (v := .int (nI (pn M))) rfl rfl R.c8 rfl ?_
    refine x_if (c := nI (pn M) ≤ nI i) (t := 101) rfl rfl (fun c1 => ?_) (fun c1 => ?_)
    · replace c1 := (nI_leI (by omega) (by omega)).mp c1
      omega
    · replace c1 := mt (nI_leI (by omega) (by omega)).mpr c1
      refine x_run 1 (pc' := 24) (lv' := [(5, .int (nI i)), (4, .int (nI r)), (2, .long (acc)), (0, .ref (X.1 8)), (1, .int (nI l))]) (st' := [.ref (X.1 8)]) rfl ?_
      refine x_get (v := .ref (X.1 9)) rfl rfl R.c8 rfl ?_
      refine x_run 1 (pc' := 29) (lv' := [(5, .int (nI i)), (4, .int (nI r)), (2, .long (acc)), (0, .ref (X.1 8)), (1, .int (nI l))]) (st' := [.int (nI i), .ref (X.1 9)]) rfl ?_
      refine x_iald (j := i) rfl R.c9 (mm_idx_nI (by omega) (by omega)) ?_
      refine x_run 1 (pc' := 32) (lv' := [(5, .int (nI i)), (4, .int (nI r)), (2, .long (acc)), (0, .ref (X.1 8)), (1, .int (nI l))]) (st' := [.int (nI r), .int (nI (pN M 0 i))]) rfl ?_
      refine x_if (c := ¬ nI (pN M 0 i) = nI r) (t := 51) rfl rfl (fun c2 => ?_) (fun c2 => ?_)
      · replace c2 := mt (nI_eq (by omega) (by omega)).mpr c2
        refine x_run 4 (pc' := 57) (lv' := [(6, .long (0)), (5, .int (nI i)), (4, .int (nI r)), (2, .long (acc)), (0, .ref (X.1 8)), (1, .int (nI l))]) (st' := [.ref (X.1 8), .long (0)]) rfl ?_
        refine x_get (v := .long (pL M 7 0)) rfl rfl R.c8 rfl ?_
        refine x_lle (t := 71) rfl rfl rfl (fun c3 => ?_) (fun c3 => ?_)
        · refine x_run 2 (pc' := 75) (lv' := [(6, .long (0)), (5, .int (nI i)), (4, .int (nI r)), (2, .long (acc)), (0, .ref (X.1 8)), (1, .int (nI l))]) (st' := []) rfl ?_
          refine x_run 2 (pc' := 78) (lv' := [(6, .long (0)), (5, .int (nI i)), (4, .int (nI r)), (2, .long (acc)), (0, .ref (X.1 8)), (1, .int (nI l))]) (st' := [.long (0), .long (0)]) rfl ?_
          refine x_lle (t := 95) rfl rfl rfl (fun c4 => ?_) (fun c4 => ?_)
          · refine x_run 1 (pc' := 98) (lv' := [(5, .int (nI i + 1)), (6, .long (0)), (4, .int (nI r)), (2, .long (acc)), (0, .ref (X.1 8)), (1, .int (nI l))]) (st' := []) rfl ?_
            rw [nI_1]
            refine x_run 1 (pc' := 14) (lv' := [(5, .int (nI (i + 1))), (6, .long (0)), (4, .int (nI r)), (2, .long (acc)), (0, .ref (X.1 8)), (1, .int (nI l))]) (st' := []) rfl ?_
            refine x_lv (a := [(5, .int (nI (i + 1))), (4, .int (nI r)), (2, .long (acc)), (0, .ref (X.1 8)), (1, .int (nI l))]) rfl rfl ⟨rfl, rfl, rfl, rfl, rfl, trivial⟩ ?_
            rw [show p_serveI p_openM r (m + 1) i M acc = p_serveI p_openM r m (i + 1) M acc from by rw [p_serveI, if_neg c2]] at kk
            exact ih (i + 1) _ _ _ (R.less (Nat.le_refl _) (Nat.le_succ _)) ⟨by omega, h0⟩ kk
          · exact absurd (show (0 : Int64) < 0 from by first | exact Int64.not_le.mp c4 | exact Int64.lt_of_lt_of_le (Int64.not_le.mp c4) (Int64.not_le.mp c3 |> Int64.le_of_lt)) (by decide)
        · refine x_run 1 (pc' := 65) (lv' := [(6, .long (0)), (5, .int (nI i)), (4, .int (nI r)), (2, .long (acc)), (0, .ref (X.1 8)), (1, .int (nI l))]) (st' := [.ref (X.1 8)]) rfl ?_
          refine x_get (v := .long (pL M 7 0)) rfl rfl R.c8 rfl ?_
          refine x_run 2 (pc' := 75) (lv' := [(6, .long (pL M 7 0)), (5, .int (nI i)), (4, .int (nI r)), (2, .long (acc)), (0, .ref (X.1 8)), (1, .int (nI l))]) (st' := []) rfl ?_
          refine x_run 2 (pc' := 78) (lv' := [(6, .long (pL M 7 0)), (5, .int (nI i)), (4, .int (nI r)), (2, .long (acc)), (0, .ref (X.1 8)), (1, .int (nI l))]) (st' := [.long (0), .long (pL M 7 0)]) rfl ?_
          refine x_lle (t := 95) rfl rfl rfl (fun c5 => ?_) (fun c5 => ?_)
          · refine x_run 1 (pc' := 98) (lv' := [(5, .int (nI i + 1)), (6, .long (pL M 7 0)), (4, .int (nI r)), (2, .long (acc)), (0, .ref (X.1 8)), (1, .int (nI l))]) (st' := []) rfl ?_
            rw [nI_1]
            refine x_run 1 (pc' := 14) (lv' := [(5, .int (nI (i + 1))), (6, .long (pL M 7 0)), (4, .int (nI r)), (2, .long (acc)), (0, .ref (X.1 8)), (1, .int (nI l))]) (st' := []) rfl ?_
            refine x_lv (a := [(5, .int (nI (i + 1))), (4, .int (nI r)), (2, .long (acc)), (0, .ref (X.1 8)), (1, .int (nI l))]) rfl rfl ⟨rfl, rfl, rfl, rfl, rfl, trivial⟩ ?_
            rw [show p_serveI p_openM r (m + 1) i M acc = p_serveI p_openM r m (i + 1) M acc from by rw [p_serveI, if_neg c2]] at kk
            exact ih (i + 1) _ _ _ (R.less (Nat.le_refl _) (Nat.le_succ _)) ⟨by omega, h0⟩ kk
          · exact absurd (show (0 : Int64) < 0 from by first | exact Int64.not_le.mp c5 | exact Int64.lt_of_lt_of_le (Int64.not_le.mp c5) (Int64.not_le.mp c3 |> Int64.le_of_lt)) (by decide)
      · replace c2 := (nI_eq (by omega) (by omega)).mp (Classical.not_not.mp c2)
        refine x_run 3 (pc' := 39) (lv' := [(5, .int (nI i)), (4, .int (nI r)), (2, .long (acc)), (0, .ref (X.1 8)), (1, .int (nI l))]) (st' := [.ref (X.1 8), .int (nI i), .ref (X.1 8)]) rfl ?_
        refine x_get (v := .ref (X.1 20)) rfl rfl R.c8 rfl ?_
        refine x_run 1 (pc' := 44) (lv' := [(5, .int (nI i)), (4, .int (nI r)), (2, .long (acc)), (0, .ref (X.1 8)), (1, .int (nI l))]) (st' := [.int (nI r), .ref (X.1 20), .int (nI i), .ref (X.1 8)]) rfl ?_
        refine x_iald (j := r) rfl R.c20 (mm_idx_nI (by omega) (by omega)) ?_
        refine x_rd (v := .long (p_lack M i (nI (pN M 3 r)))) (k' := 66) (as := [.ref (X.1 8), .int (nI i), .int (nI (pN M 3 r))]) (rest := []) (x_isV (np := 2) rfl rfl rfl R.c8 rfl) (k_lack R hi _) ?_
        refine x_run 4 (pc' := 57) (lv' := [(6, .long (p_lack M i (nI (pN M 3 r)))), (5, .int (nI i)), (4, .int (nI r)), (2, .long (acc)), (0, .ref (X.1 8)), (1, .int (nI l))]) (st' := [.ref (X.1 8), .long (p_lack M i (nI (pN M 3 r)))]) rfl ?_
        refine x_get (v := .long (pL M 7 0)) rfl rfl R.c8 rfl ?_
        refine x_lle (t := 71) rfl rfl rfl (fun c6 => ?_) (fun c6 => ?_)
        · refine x_run 2 (pc' := 75) (lv' := [(6, .long (p_lack M i (nI (pN M 3 r)))), (5, .int (nI i)), (4, .int (nI r)), (2, .long (acc)), (0, .ref (X.1 8)), (1, .int (nI l))]) (st' := []) rfl ?_
          refine x_lv (a := [(6, .long (p_lack M i (nI (pN M 3 r)))), (5, .int (nI i)), (4, .int (nI r)), (2, .long (acc)), (0, .ref (X.1 8)), (1, .int (nI l))]) rfl rfl ⟨rfl, rfl, rfl, rfl, rfl, rfl, trivial⟩ ?_
          rw [show p_serveI p_openM r (m + 1) i M acc = p_serveI p_openM r m (i + 1) (p_serve (p_openM M i) M i (p_cents M i (nI (pN M 3 r)))) (acc + p_cents M i (nI (pN M 3 r))) from by rw [p_serveI, if_pos c2]] at kk
          exact k_serveS hr R hi (by rw [p_cents, if_neg (Int64.not_lt.mpr c6)]) (fun h R => ih (i + 1) _ _ _ R ⟨by show _ = pn M; omega, serve_cash0 _ i _ h0⟩ kk) h0
        · refine x_run 1 (pc' := 65) (lv' := [(6, .long (p_lack M i (nI (pN M 3 r)))), (5, .int (nI i)), (4, .int (nI r)), (2, .long (acc)), (0, .ref (X.1 8)), (1, .int (nI l))]) (st' := [.ref (X.1 8)]) rfl ?_
          refine x_get (v := .long (pL M 7 0)) rfl rfl R.c8 rfl ?_
          refine x_run 2 (pc' := 75) (lv' := [(6, .long (pL M 7 0)), (5, .int (nI i)), (4, .int (nI r)), (2, .long (acc)), (0, .ref (X.1 8)), (1, .int (nI l))]) (st' := []) rfl ?_
          refine x_lv (a := [(6, .long (pL M 7 0)), (5, .int (nI i)), (4, .int (nI r)), (2, .long (acc)), (0, .ref (X.1 8)), (1, .int (nI l))]) rfl rfl ⟨rfl, rfl, rfl, rfl, rfl, rfl, trivial⟩ ?_
          rw [show p_serveI p_openM r (m + 1) i M acc = p_serveI p_openM r m (i + 1) (p_serve (p_openM M i) M i (p_cents M i (nI (pN M 3 r)))) (acc + p_cents M i (nI (pN M 3 r))) from by rw [p_serveI, if_pos c2]] at kk
          exact k_serveS hr R hi (by rw [p_cents, if_pos (Int64.not_le.mp c6)]) (fun h R => ih (i + 1) _ _ _ R ⟨by show _ = pn M; omega, serve_cash0 _ i _ h0⟩ kk) h0
theorem cash_serveI (opn : pP → Nat → Bool) (r : Nat) : ∀ (m i : Nat) (P : pP) (acc : Int64), 0 ≤ pL P 7 0 → 0 ≤ pL (p_serveI opn r m i P acc).1 7 0
  | 0, _, _, _, h => h
  | m + 1, i, P, acc, h => by
    unfold p_serveI
    split
    · exact cash_serveI opn r m (i + 1) _ _ (serve_cash0 _ i _ h)
    · exact cash_serveI opn r m (i + 1) P acc h
theorem k_serveR {l : Nat} (hl : l < 8) {Q : mm_O × mm_H → Prop} : ∀ (m : Nat) (r : Nat) (acc : Int64) (M : pP) (h : mm_H), Rep u (v + 60 * m) X P M z h → r + m = l + 1 ∧ 0 ≤ pL M 7 0 → (∀ h, Rep u v X P ((p_serveR p_openM m r M acc).1) z h → Wx (d + 3) 82 107 [(4, .int (nI (r + m))), (2, .long (p_serveR p_openM m r M acc).2), (0, .ref (X.1 8)), (1, .int (nI l))] [] h Q) → Wx (d + 3) 82 5 [(4, .int (nI r)), (2, .long (acc)), (0, .ref (X.1 8)), (1, .int (nI l))] [] h Q := by
  intro m
  induction m with
  | zero =>
    intro r acc M h R hm kk
    obtain ⟨hm, h0⟩ := hm
    refine x_run 2 (pc' := 8) (lv' := [(4, .int (nI r)), (2, .long (acc)), (0, .ref (X.1 8)), (1, .int (nI l))]) (st' := [.int (nI l), .int (nI r)]) rfl ?_
    refine x_if (c := nI l < nI r) (t := 107) rfl rfl (fun c1 => ?_) (fun c1 => ?_)
    · replace c1 := (nI_ltI (by omega) (by omega)).mp c1
      refine x_lv (a := [(4, .int (nI r)), (2, .long (acc)), (0, .ref (X.1 8)), (1, .int (nI l))]) rfl rfl ⟨rfl, rfl, rfl, rfl, trivial⟩ ?_
      exact kk h R
    · replace c1 := mt (nI_ltI (by omega) (by omega)).mpr c1
      omega
  | succ m ih =>
    intro r acc M h R hm kk
    obtain ⟨hm, h0⟩ := hm
    have m60 := R.m60
    rw [show r + (m + 1) = r + 1 + m by omega] at kk
    refine x_run 2 (pc' := 8) (lv' := [(4, .int (nI r)), (2, .long (acc)), (0, .ref (X.1 8)), (1, .int (nI l))]) (st' := [.int (nI l), .int (nI r)]) rfl ?_
    refine x_if (c := nI l < nI r) (t := 107) rfl rfl (fun c1 => ?_) (fun c1 => ?_)
    · replace c1 := (nI_ltI (by omega) (by omega)).mp c1
      omega
    · replace c1 := mt (nI_ltI (by omega) (by omega)).mpr c1
      refine x_run 2 (pc' := 14) (lv' := [(5, .int (0)), (4, .int (nI r)), (2, .long (acc)), (0, .ref (X.1 8)), (1, .int (nI l))]) (st' := []) rfl ?_
      refine x_lv (a := [(5, .int (0)), (4, .int (nI r)), (2, .long (acc)), (0, .ref (X.1 8)), (1, .int (nI l))]) rfl rfl ⟨rfl, rfl, rfl, rfl, rfl, trivial⟩ ?_
      refine k_serveI (v := v + 60 * m) (by omega) hl (pn M) 0 acc M h (R.less (Nat.le_refl _) (by omega)) ⟨by omega, h0⟩ (fun h R => ?_)
      refine x_run 1 (pc' := 104) (lv' := [(4, .int (nI r + 1)), (5, .int (nI (0 + pn M))), (2, .long ((p_serveI p_openM r (pn M) 0 M acc).2)), (0, .ref (X.1 8)), (1, .int (nI l))]) (st' := []) rfl ?_
      rw [nI_1]
      refine x_run 1 (pc' := 5) (lv' := [(4, .int (nI (r + 1))), (5, .int (nI (0 + pn M))), (2, .long ((p_serveI p_openM r (pn M) 0 M acc).2)), (0, .ref (X.1 8)), (1, .int (nI l))]) (st' := []) rfl ?_
      refine x_lv (a := [(4, .int (nI (r + 1))), (2, .long ((p_serveI p_openM r (pn M) 0 M acc).2)), (0, .ref (X.1 8)), (1, .int (nI l))]) rfl rfl ⟨rfl, rfl, rfl, rfl, trivial⟩ ?_
      rw [show p_serveR p_openM (m + 1) r M acc = p_serveR p_openM m (r + 1) (p_serveI p_openM r (pn M) 0 M acc).1 (p_serveI p_openM r (pn M) 0 M acc).2 from by rw [p_serveR]] at kk
      exact ih (r + 1) _ _ _ R ⟨by omega, cash_serveI _ _ _ _ _ _ h0⟩ kk
theorem k_through {l : Nat} (R : Rep u (v + 60 * (l + 1)) X P M z h) (hl : l < 8) (h0 : 0 ≤ pL M 7 0) : Wx (d + 3) 82 0 (lv_args 0 [.ref (X.1 8), .int (nI l)]) [] h (fun r0 => r0.1 = .inl (some (.long ((p_serveR p_openM (l + 1) 0 M 0).2))) ∧ Rep u v X P ((p_serveR p_openM (l + 1) 0 M 0).1) z r0.2) := by
  show Wx _ _ 0 [(0, .ref (X.1 8)), (1, .int (nI l))] [] h _
  refine x_run 4 (pc' := 5) (lv' := [(4, .int (0)), (2, .long (0)), (0, .ref (X.1 8)), (1, .int (nI l))]) (st' := []) rfl ?_
  refine x_lv (a := [(4, .int (0)), (2, .long (0)), (0, .ref (X.1 8)), (1, .int (nI l))]) rfl rfl ⟨rfl, rfl, rfl, rfl, trivial⟩ ?_
  refine k_serveR hl (l + 1) 0 0 M h R ⟨by omega, h0⟩ (fun h R => ?_)
  refine x_run 1 (pc' := 108) (lv' := [(4, .int (nI (0 + (l + 1)))), (2, .long ((p_serveR p_openM (l + 1) 0 M 0).2)), (0, .ref (X.1 8)), (1, .int (nI l))]) (st' := [.long ((p_serveR p_openM (l + 1) 0 M 0).2)]) rfl ?_
  refine x_ret (v := some (.long ((p_serveR p_openM (l + 1) 0 M 0).2))) rfl rfl rfl ⟨?_, ?_⟩
  · rfl
  · exact R
end MOD2
