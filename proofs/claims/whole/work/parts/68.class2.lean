section CLS2
variable {u v d : Nat} {X : xX} {P M : pP} {z : zZ} {h : mm_H} {i j : Nat}
theorem c_serve (R : Rep u (v + 1) X P M z h) (hi : i < pn P) (c : Int64) : Wx (d + 1) 27 0 (lv_args 0 [.ref (X.1 0), .ref (X.1 (100 + i)), .long (c)]) [] h (fun r0 => r0.1 = .inl none ∧ Rep u v X (p_serve (p_open P i) P i c) M z r0.2) := by
  show Wx _ _ 0 [(0, .ref (X.1 0)), (1, .ref (X.1 (100 + i))), (2, .long (c))] [] h _
  refine x_run 2 (pc' := 2) (lv' := [(0, .ref (X.1 0)), (1, .ref (X.1 (100 + i))), (2, .long (c))]) (st' := [.ref (X.1 0), .ref (X.1 0)]) rfl ?_
  refine x_get (v := .long (pL P 7 0)) rfl rfl R.c0 rfl ?_
  refine x_run 2 (pc' := 7) (lv' := [(0, .ref (X.1 0)), (1, .ref (X.1 (100 + i))), (2, .long (c))]) (st' := [.long ((pL P 7 0) - c), .ref (X.1 0)]) rfl ?_
  refine x_put rfl rfl R.c0 rfl ?_
  refine gen_h (A := Rep u (v + 1) X (sL P 7 0 ((pL P 7 0) - c)) M z) (R.uCash _) (fun h R => ?_)
  refine x_run 1 (pc' := 11) (lv' := [(0, .ref (X.1 0)), (1, .ref (X.1 (100 + i))), (2, .long (c))]) (st' := [.ref (X.1 (100 + i))]) rfl ?_
  refine x_rd (v := .int (bI (p_open (sL P 7 0 ((pL P 7 0) - c)) i))) (k' := 40) (as := [.ref (X.1 (100 + i))]) (rest := []) (x_isV (np := 0) rfl rfl rfl (R.cC hi) rfl) (c_open R hi) ?_
  refine x_if (c := bI (p_open (sL P 7 0 ((pL P 7 0) - c)) i) = 0) (t := 43) rfl rfl (fun c1 => ?_) (fun c1 => ?_)
  · replace c1 := bI_0.mp c1
    refine x_run 2 (pc' := 45) (lv' := [(0, .ref (X.1 0)), (1, .ref (X.1 (100 + i))), (2, .long (c))]) (st' := [.ref (X.1 (100 + i)), .ref (X.1 (100 + i))]) rfl ?_
    refine x_get (v := .long (pL P 3 i)) rfl rfl (R.cC hi) rfl ?_
    refine x_run 2 (pc' := 50) (lv' := [(0, .ref (X.1 0)), (1, .ref (X.1 (100 + i))), (2, .long (c))]) (st' := [.long ((pL P 3 i) + c), .ref (X.1 (100 + i))]) rfl ?_
    refine x_put rfl rfl (R.cC hi) rfl ?_
    refine gen_h (A := Rep u (v + 1) X (sL (sL P 7 0 ((pL P 7 0) - c)) 3 i ((pL P 3 i) + c)) M z) (R.uPaid hi _) (fun h R => ?_)
    refine x_run 1 (pc' := 54) (lv' := [(0, .ref (X.1 0)), (1, .ref (X.1 (100 + i))), (2, .long (c))]) (st' := [.ref (X.1 0)]) rfl ?_
    refine x_get (v := .ref (X.1 4)) rfl rfl R.c0 rfl ?_
    refine x_run 2 (pc' := 59) (lv' := [(0, .ref (X.1 0)), (1, .ref (X.1 (100 + i))), (2, .long (c))]) (st' := [.ref (X.1 (100 + i)), .int (4), .ref (X.1 4)]) rfl ?_
    refine x_get (v := .int (nI i)) rfl rfl (R.cC hi) rfl ?_
    refine x_run 1 (pc' := 63) (lv' := [(0, .ref (X.1 0)), (1, .ref (X.1 (100 + i))), (2, .long (c))]) (st' := [.long (c), .int (nI i), .int (4), .ref (X.1 4)]) rfl ?_
    refine x_wr0 (A := Rep u v X (p_note (sL (sL P 7 0 ((pL P 7 0) - c)) 3 i ((pL P 3 i) + c)) 4 (nI i) c) M z) (k' := 51) (as := [.ref (X.1 4), .int (4), .int (nI i), .long (c)]) (rest := []) (x_isV (np := 3) rfl rfl rfl R.c4 rfl) (c_note R _ _ _) (fun h R => ?_)
    refine x_ret (v := none) rfl rfl rfl ⟨?_, ?_⟩
    · rfl
    · have e : p_open P i = false := c1
      show Rep u v X (p_serve (p_open P i) P i c) M z h
      rw [e]
      exact R
  · replace c1 := bI_n0 c1
    refine x_run 2 (pc' := 19) (lv' := [(0, .ref (X.1 0)), (1, .ref (X.1 (100 + i))), (2, .long (c))]) (st' := [.ref (X.1 (100 + i)), .ref (X.1 (100 + i))]) rfl ?_
    refine x_get (v := .long (pL P 4 i)) rfl rfl (R.cC hi) rfl ?_
    refine x_run 2 (pc' := 24) (lv' := [(0, .ref (X.1 0)), (1, .ref (X.1 (100 + i))), (2, .long (c))]) (st' := [.long ((pL P 4 i) + c), .ref (X.1 (100 + i))]) rfl ?_
    refine x_put rfl rfl (R.cC hi) rfl ?_
    refine gen_h (A := Rep u (v + 1) X (sL (sL P 7 0 ((pL P 7 0) - c)) 4 i ((pL P 4 i) + c)) M z) (R.uRes hi _) (fun h R => ?_)
    refine x_run 1 (pc' := 28) (lv' := [(0, .ref (X.1 0)), (1, .ref (X.1 (100 + i))), (2, .long (c))]) (st' := [.ref (X.1 0)]) rfl ?_
    refine x_get (v := .ref (X.1 4)) rfl rfl R.c0 rfl ?_
    refine x_run 2 (pc' := 33) (lv' := [(0, .ref (X.1 0)), (1, .ref (X.1 (100 + i))), (2, .long (c))]) (st' := [.ref (X.1 (100 + i)), .int (5), .ref (X.1 4)]) rfl ?_
    refine x_get (v := .int (nI i)) rfl rfl (R.cC hi) rfl ?_
    refine x_run 1 (pc' := 37) (lv' := [(0, .ref (X.1 0)), (1, .ref (X.1 (100 + i))), (2, .long (c))]) (st' := [.long (c), .int (nI i), .int (5), .ref (X.1 4)]) rfl ?_
    refine x_wr0 (A := Rep u v X (p_note (sL (sL P 7 0 ((pL P 7 0) - c)) 4 i ((pL P 4 i) + c)) 5 (nI i) c) M z) (k' := 51) (as := [.ref (X.1 4), .int (5), .int (nI i), .long (c)]) (rest := []) (x_isV (np := 3) rfl rfl rfl R.c4 rfl) (c_note R _ _ _) (fun h R => ?_)
    refine x_run 1 (pc' := 66) (lv' := [(0, .ref (X.1 0)), (1, .ref (X.1 (100 + i))), (2, .long (c))]) (st' := []) rfl ?_
    refine x_ret (v := none) rfl rfl rfl ⟨?_, ?_⟩
    · rfl
    · have e : p_open P i = true := c1
      show Rep u v X (p_serve (p_open P i) P i c) M z h
      rw [e]
      exact R
theorem c_release (R : Rep u (v + 1) X P M z h) (hi : i < pn P) (c : Int64) : Wx (d + 1) 30 0 (lv_args 0 [.ref (X.1 0), .ref (X.1 (100 + i)), .long (c)]) [] h (fun r0 => r0.1 = .inl none ∧ Rep u v X (p_release P i c) M z r0.2) := by
  show Wx _ _ 0 [(0, .ref (X.1 0)), (1, .ref (X.1 (100 + i))), (2, .long (c))] [] h _
  refine x_run 2 (pc' := 2) (lv' := [(0, .ref (X.1 0)), (1, .ref (X.1 (100 + i))), (2, .long (c))]) (st' := [.ref (X.1 (100 + i)), .ref (X.1 (100 + i))]) rfl ?_
  refine x_get (v := .long (pL P 4 i)) rfl rfl (R.cC hi) rfl ?_
  refine x_run 2 (pc' := 7) (lv' := [(0, .ref (X.1 0)), (1, .ref (X.1 (100 + i))), (2, .long (c))]) (st' := [.long ((pL P 4 i) - c), .ref (X.1 (100 + i))]) rfl ?_
  refine x_put rfl rfl (R.cC hi) rfl ?_
  refine gen_h (A := Rep u (v + 1) X (sL P 4 i ((pL P 4 i) - c)) M z) (R.uRes hi _) (fun h R => ?_)
  refine x_run 2 (pc' := 12) (lv' := [(0, .ref (X.1 0)), (1, .ref (X.1 (100 + i))), (2, .long (c))]) (st' := [.ref (X.1 0), .ref (X.1 0)]) rfl ?_
  refine x_get (v := .long (pL P 7 0)) rfl rfl R.c0 rfl ?_
  refine x_run 2 (pc' := 17) (lv' := [(0, .ref (X.1 0)), (1, .ref (X.1 (100 + i))), (2, .long (c))]) (st' := [.long ((pL P 7 0) + c), .ref (X.1 0)]) rfl ?_
  refine x_put rfl rfl R.c0 rfl ?_
  refine gen_h (A := Rep u (v + 1) X (sL (sL P 4 i ((pL P 4 i) - c)) 7 0 ((pL P 7 0) + c)) M z) (R.uCash _) (fun h R => ?_)
  refine x_run 1 (pc' := 21) (lv' := [(0, .ref (X.1 0)), (1, .ref (X.1 (100 + i))), (2, .long (c))]) (st' := [.ref (X.1 0)]) rfl ?_
  refine x_get (v := .ref (X.1 4)) rfl rfl R.c0 rfl ?_
  refine x_run 2 (pc' := 27) (lv' := [(0, .ref (X.1 0)), (1, .ref (X.1 (100 + i))), (2, .long (c))]) (st' := [.ref (X.1 (100 + i)), .int (7), .ref (X.1 4)]) rfl ?_
  refine x_get (v := .int (nI i)) rfl rfl (R.cC hi) rfl ?_
  refine x_run 1 (pc' := 31) (lv' := [(0, .ref (X.1 0)), (1, .ref (X.1 (100 + i))), (2, .long (c))]) (st' := [.long (c), .int (nI i), .int (7), .ref (X.1 4)]) rfl ?_
  refine x_wr0 (A := Rep u v X (p_note (sL (sL P 4 i ((pL P 4 i) - c)) 7 0 ((pL P 7 0) + c)) 7 (nI i) c) M z) (k' := 51) (as := [.ref (X.1 4), .int (7), .int (nI i), .long (c)]) (rest := []) (x_isV (np := 3) rfl rfl rfl R.c4 rfl) (c_note R _ _ _) (fun h R => ?_)
  refine x_ret (v := none) rfl rfl rfl ⟨?_, ?_⟩
  · rfl
  · exact R
theorem c_pay (R : Rep u (v + 1) X P M z h) (hi : i < pn P) (c : Int64) : Wx (d + 1) 35 0 (lv_args 0 [.ref (X.1 0), .ref (X.1 (100 + i)), .long (c)]) [] h (fun r0 => r0.1 = .inl none ∧ Rep u v X (p_pay P i c) M z r0.2) := by
  show Wx _ _ 0 [(0, .ref (X.1 0)), (1, .ref (X.1 (100 + i))), (2, .long (c))] [] h _
  refine x_run 2 (pc' := 2) (lv' := [(0, .ref (X.1 0)), (1, .ref (X.1 (100 + i))), (2, .long (c))]) (st' := [.ref (X.1 0), .ref (X.1 0)]) rfl ?_
  refine x_get (v := .long (pL P 7 0)) rfl rfl R.c0 rfl ?_
  refine x_run 2 (pc' := 7) (lv' := [(0, .ref (X.1 0)), (1, .ref (X.1 (100 + i))), (2, .long (c))]) (st' := [.long ((pL P 7 0) - c), .ref (X.1 0)]) rfl ?_
  refine x_put rfl rfl R.c0 rfl ?_
  refine gen_h (A := Rep u (v + 1) X (sL P 7 0 ((pL P 7 0) - c)) M z) (R.uCash _) (fun h R => ?_)
  refine x_run 2 (pc' := 12) (lv' := [(0, .ref (X.1 0)), (1, .ref (X.1 (100 + i))), (2, .long (c))]) (st' := [.ref (X.1 (100 + i)), .ref (X.1 (100 + i))]) rfl ?_
  refine x_get (v := .long (pL P 3 i)) rfl rfl (R.cC hi) rfl ?_
  refine x_run 2 (pc' := 17) (lv' := [(0, .ref (X.1 0)), (1, .ref (X.1 (100 + i))), (2, .long (c))]) (st' := [.long ((pL P 3 i) + c), .ref (X.1 (100 + i))]) rfl ?_
  refine x_put rfl rfl (R.cC hi) rfl ?_
  refine gen_h (A := Rep u (v + 1) X (sL (sL P 7 0 ((pL P 7 0) - c)) 3 i ((pL P 3 i) + c)) M z) (R.uPaid hi _) (fun h R => ?_)
  refine x_run 1 (pc' := 21) (lv' := [(0, .ref (X.1 0)), (1, .ref (X.1 (100 + i))), (2, .long (c))]) (st' := [.ref (X.1 0)]) rfl ?_
  refine x_get (v := .ref (X.1 4)) rfl rfl R.c0 rfl ?_
  refine x_run 2 (pc' := 27) (lv' := [(0, .ref (X.1 0)), (1, .ref (X.1 (100 + i))), (2, .long (c))]) (st' := [.ref (X.1 (100 + i)), .int (8), .ref (X.1 4)]) rfl ?_
  refine x_get (v := .int (nI i)) rfl rfl (R.cC hi) rfl ?_
  refine x_run 1 (pc' := 31) (lv' := [(0, .ref (X.1 0)), (1, .ref (X.1 (100 + i))), (2, .long (c))]) (st' := [.long (c), .int (nI i), .int (8), .ref (X.1 4)]) rfl ?_
  refine x_wr0 (A := Rep u v X (p_note (sL (sL P 7 0 ((pL P 7 0) - c)) 3 i ((pL P 3 i) + c)) 8 (nI i) c) M z) (k' := 51) (as := [.ref (X.1 4), .int (8), .int (nI i), .long (c)]) (rest := []) (x_isV (np := 3) rfl rfl rfl R.c4 rfl) (c_note R _ _ _) (fun h R => ?_)
  refine x_ret (v := none) rfl rfl rfl ⟨?_, ?_⟩
  · rfl
  · exact R
theorem c_resolve (R : Rep u (v + 2) X P M z h) (hi : i < pn P) : Wx (d + 4) 29 0 (lv_args 0 [.ref (X.1 0), .ref (X.1 (100 + i))]) [] h (fun r0 => r0.1 = .inl (some (.long (p_resV (p_open P i) P i))) ∧ Rep u v X (p_resolve (p_open P i) P i) M z r0.2) := by
  show Wx _ _ 0 [(0, .ref (X.1 0)), (1, .ref (X.1 (100 + i)))] [] h _
  refine x_run 1 (pc' := 1) (lv' := [(0, .ref (X.1 0)), (1, .ref (X.1 (100 + i)))]) (st' := [.ref (X.1 (100 + i))]) rfl ?_
  refine x_rd (v := .int (bI (p_open P i))) (k' := 40) (as := [.ref (X.1 (100 + i))]) (rest := []) (x_isV (np := 0) rfl rfl rfl (R.cC hi) rfl) (c_open R hi) ?_
  refine x_if (c := ¬ bI (p_open P i) = 0) (t := 16) rfl rfl (fun c1 => ?_) (fun c1 => ?_)
  · replace c1 := bI_n0 c1
    refine x_run 1 (pc' := 17) (lv' := [(0, .ref (X.1 0)), (1, .ref (X.1 (100 + i)))]) (st' := [.long (0)]) rfl ?_
    refine x_ret (v := some (.long (0))) rfl rfl rfl ⟨?_, ?_⟩
    · rw [show p_resV (p_open P i) P i = 0 from if_pos (Or.inl c1)]
    · replace R := R.less (v' := v) (Nat.le_refl _) (by omega)
      show Rep u v X (p_resolve (p_open P i) P i) M z h
      rw [p_resolve, if_pos (Or.inl c1)]
      exact R
  · replace c1 := bI_0.mp (Classical.not_not.mp c1)
    refine x_run 1 (pc' := 8) (lv' := [(0, .ref (X.1 0)), (1, .ref (X.1 (100 + i)))]) (st' := [.ref (X.1 (100 + i))]) rfl ?_
    refine x_get (v := .long (pL P 4 i)) rfl rfl (R.cC hi) rfl ?_
    refine x_run 1 (pc' := 12) (lv' := [(0, .ref (X.1 0)), (1, .ref (X.1 (100 + i)))]) (st' := [.long (0), .long (pL P 4 i)]) rfl ?_
    refine x_lne (t := 18) rfl rfl rfl (fun c2 => ?_) (fun c2 => ?_)
    · refine x_run 3 (pc' := 21) (lv' := [(0, .ref (X.1 0)), (1, .ref (X.1 (100 + i)))]) (st' := [.ref (X.1 (100 + i)), .ref (X.1 0), .long (0)]) rfl ?_
      refine x_rd (v := .long (p_dueOf P i)) (k' := 23) (as := [.ref (X.1 0), .ref (X.1 (100 + i))]) (rest := [.long (0)]) (x_isV (np := 1) rfl rfl rfl R.c0 rfl) (c_dueOf R hi) ?_
      refine x_run 1 (pc' := 25) (lv' := [(0, .ref (X.1 0)), (1, .ref (X.1 (100 + i)))]) (st' := [.ref (X.1 (100 + i)), .long (p_dueOf P i), .long (0)]) rfl ?_
      refine x_get (v := .long (pL P 3 i)) rfl rfl (R.cC hi) rfl ?_
      refine x_run 1 (pc' := 29) (lv' := [(0, .ref (X.1 0)), (1, .ref (X.1 (100 + i)))]) (st' := [.long ((p_dueOf P i) - (pL P 3 i)), .long (0)]) rfl ?_
      refine x_max rfl rfl rfl ?_
      refine x_run 1 (pc' := 33) (lv' := [(0, .ref (X.1 0)), (1, .ref (X.1 (100 + i)))]) (st' := [.ref (X.1 (100 + i)), .long (if (p_dueOf P i) - (pL P 3 i) < 0 then 0 else (p_dueOf P i) - (pL P 3 i))]) rfl ?_
      refine x_get (v := .long (pL P 4 i)) rfl rfl (R.cC hi) rfl ?_
      refine x_min rfl rfl rfl ?_
      refine x_run 3 (pc' := 42) (lv' := [(2, .long (p_resC P i)), (0, .ref (X.1 0)), (1, .ref (X.1 (100 + i)))]) (st' := [.ref (X.1 (100 + i)), .ref (X.1 (100 + i))]) rfl ?_
      refine x_get (v := .long (pL P 4 i)) rfl rfl (R.cC hi) rfl ?_
      refine x_run 2 (pc' := 47) (lv' := [(2, .long (p_resC P i)), (0, .ref (X.1 0)), (1, .ref (X.1 (100 + i)))]) (st' := [.long ((pL P 4 i) - (p_resC P i)), .ref (X.1 (100 + i))]) rfl ?_
      refine x_put rfl rfl (R.cC hi) rfl ?_
      refine gen_h (A := Rep u (v + 1 + 1) X (sL P 4 i ((pL P 4 i) - (p_resC P i))) M z) (R.uRes hi _) (fun h R => ?_)
      refine x_run 2 (pc' := 52) (lv' := [(2, .long (p_resC P i)), (0, .ref (X.1 0)), (1, .ref (X.1 (100 + i)))]) (st' := [.ref (X.1 (100 + i)), .ref (X.1 (100 + i))]) rfl ?_
      refine x_get (v := .long (pL P 3 i)) rfl rfl (R.cC hi) rfl ?_
      refine x_run 2 (pc' := 57) (lv' := [(2, .long (p_resC P i)), (0, .ref (X.1 0)), (1, .ref (X.1 (100 + i)))]) (st' := [.long ((pL P 3 i) + (p_resC P i)), .ref (X.1 (100 + i))]) rfl ?_
      refine x_put rfl rfl (R.cC hi) rfl ?_
      refine gen_h (A := Rep u (v + 1 + 1) X (sL (sL P 4 i ((pL P 4 i) - (p_resC P i))) 3 i ((pL P 3 i) + (p_resC P i))) M z) (R.uPaid hi _) (fun h R => ?_)
      refine x_run 1 (pc' := 61) (lv' := [(2, .long (p_resC P i)), (0, .ref (X.1 0)), (1, .ref (X.1 (100 + i)))]) (st' := [.ref (X.1 0)]) rfl ?_
      refine x_get (v := .ref (X.1 4)) rfl rfl R.c0 rfl ?_
      refine x_run 2 (pc' := 67) (lv' := [(2, .long (p_resC P i)), (0, .ref (X.1 0)), (1, .ref (X.1 (100 + i)))]) (st' := [.ref (X.1 (100 + i)), .int (6), .ref (X.1 4)]) rfl ?_
      refine x_get (v := .int (nI i)) rfl rfl (R.cC hi) rfl ?_
      refine x_run 1 (pc' := 71) (lv' := [(2, .long (p_resC P i)), (0, .ref (X.1 0)), (1, .ref (X.1 (100 + i)))]) (st' := [.long (p_resC P i), .int (nI i), .int (6), .ref (X.1 4)]) rfl ?_
      refine x_wr0 (A := Rep u (v + 1) X (p_note (sL (sL P 4 i ((pL P 4 i) - (p_resC P i))) 3 i ((pL P 3 i) + (p_resC P i))) 6 (nI i) (p_resC P i)) M z) (k' := 51) (as := [.ref (X.1 4), .int (6), .int (nI i), .long (p_resC P i)]) (rest := []) (x_isV (np := 3) rfl rfl rfl R.c4 rfl) (c_note R _ _ _) (fun h R => ?_)
      refine x_run 3 (pc' := 77) (lv' := [(2, .long (p_resC P i)), (0, .ref (X.1 0)), (1, .ref (X.1 (100 + i)))]) (st' := [.ref (X.1 (100 + i)), .ref (X.1 (100 + i)), .ref (X.1 0)]) rfl ?_
      refine x_get (v := .long (pL (sL P 4 i ((pL P 4 i) - (p_resC P i))) 4 i)) rfl rfl (R.cC hi) rfl ?_
      refine x_wr0 (A := Rep u v X (p_release (p_note (sL (sL P 4 i ((pL P 4 i) - (p_resC P i))) 3 i ((pL P 3 i) + (p_resC P i))) 6 (nI i) (p_resC P i)) i (pL (sL P 4 i ((pL P 4 i) - (p_resC P i))) 4 i)) M z) (k' := 30) (as := [.ref (X.1 0), .ref (X.1 (100 + i)), .long (pL (sL P 4 i ((pL P 4 i) - (p_resC P i))) 4 i)]) (rest := []) (x_isV (np := 2) rfl rfl rfl R.c0 rfl) (c_release R hi _) (fun h R => ?_)
      refine x_run 1 (pc' := 84) (lv' := [(2, .long (p_resC P i)), (0, .ref (X.1 0)), (1, .ref (X.1 (100 + i)))]) (st' := [.long (p_resC P i)]) rfl ?_
      refine x_ret (v := some (.long (p_resC P i))) rfl rfl rfl ⟨?_, ?_⟩
      · rw [show p_resV (p_open P i) P i = p_resC P i from if_neg (fun e => by rcases e with e | e; exact absurd (c1.symm.trans e) (by decide); exact c2 e)]
      · show Rep u v X (p_resolve (p_open P i) P i) M z h
        rw [p_resolve, if_neg (fun e => by rcases e with e | e; exact absurd (c1.symm.trans e) (by decide); exact c2 e)]
        exact R
    · refine x_run 1 (pc' := 17) (lv' := [(0, .ref (X.1 0)), (1, .ref (X.1 (100 + i)))]) (st' := [.long (0)]) rfl ?_
      refine x_ret (v := some (.long (0))) rfl rfl rfl ⟨?_, ?_⟩
      · rw [show p_resV (p_open P i) P i = 0 from if_pos (Or.inr c2)]
      · replace R := R.less (v' := v) (Nat.le_refl _) (by omega)
        show Rep u v X (p_resolve (p_open P i) P i) M z h
        rw [p_resolve, if_pos (Or.inr c2)]
        exact R
theorem l_serveI {r l : Nat} (hr : r < 8) (hl : l < 8) {Q : mm_O × mm_H → Prop} : ∀ (m : Nat) (i : Nat) (acc : Int64) (P : pP) (h : mm_H), Rep u (v + m) X P M z h → i + m = pn P → (∀ h, Rep u v X ((p_serveI p_open r m i P acc).1) M z h → Wx (d + 4) 26 82 [(5, .int (nI (i + m))), (4, .int (nI r)), (2, .long (p_serveI p_open r m i P acc).2), (0, .ref (X.1 0)), (1, .int (nI l))] [] h Q) → Wx (d + 4) 26 14 [(5, .int (nI i)), (4, .int (nI r)), (2, .long (acc)), (0, .ref (X.1 0)), (1, .int (nI l))] [] h Q := by
  intro m
  induction m with
  | zero =>
    intro i acc P h R hm kk
    have n60 := R.n60
    refine x_run 2 (pc' := 17) (lv' := [(5, .int (nI i)), (4, .int (nI r)), (2, .long (acc)), (0, .ref (X.1 0)), (1, .int (nI l))]) (st' := [.ref (X.1 0), .int (nI i)]) rfl ?_
    refine x_get (v := .int (nI (pn P))) rfl rfl R.c0 rfl ?_
    refine x_if (c := nI (pn P) ≤ nI i) (t := 82) rfl rfl (fun c1 => ?_) (fun c1 => ?_)
    · replace c1 := (nI_leI (by omega) (by omega)).mp c1
      refine x_lv (a := [(5, .int (nI i)), (4, .int (nI r)), (2, .long (acc)), (0, .ref (X.1 0)), (1, .int (nI l))]) rfl rfl ⟨rfl, rfl, rfl, rfl, rfl, trivial⟩ ?_
      exact kk h R
    · replace c1 := mt (nI_leI (by omega) (by omega)).mpr c1
      omega
  | succ m ih =>
    intro i acc P h R hm kk
    have R : Rep u (v + m + 1) X P M z h := R
    have n60 := R.n60
    have hi : i < pn P := by omega
    have r8 := R.wP.rk hi
    rw [show i + (m + 1) = i + 1 + m by omega] at kk
    refine x_run 2 (pc' := 17) (lv' := [(5, .int (nI i)), (4, .int (nI r)), (2, .long (acc)), (0, .ref (X.1 0)), (1, .int (nI l))]) (st' := [.ref (X.1 0), .int (nI i)]) rfl ?_
    refine x_get (v := .int (nI (pn P))) rfl rfl R.c0 rfl ?_
    refine x_if (c := nI (pn P) ≤ nI i) (t := 82) rfl rfl (fun c1 => ?_) (fun c1 => ?_)
    · replace c1 := (nI_leI (by omega) (by omega)).mp c1
      omega
    · replace c1 := mt (nI_leI (by omega) (by omega)).mpr c1
      refine x_run 1 (pc' := 24) (lv' := [(5, .int (nI i)), (4, .int (nI r)), (2, .long (acc)), (0, .ref (X.1 0)), (1, .int (nI l))]) (st' := [.ref (X.1 0)]) rfl ?_
      refine x_get (v := .ref (X.1 1)) rfl rfl R.c0 rfl ?_
      refine x_run 1 (pc' := 29) (lv' := [(5, .int (nI i)), (4, .int (nI r)), (2, .long (acc)), (0, .ref (X.1 0)), (1, .int (nI l))]) (st' := [.int (nI i), .ref (X.1 1)]) rfl ?_
      refine x_aald3 (j := i) rfl R.c1 (mm_idx_nI (by omega) (by omega)) ?_
      rw [if_pos hi]
      refine x_run 2 (pc' := 34) (lv' := [(6, .ref (X.1 (100 + i))), (5, .int (nI i)), (4, .int (nI r)), (2, .long (acc)), (0, .ref (X.1 0)), (1, .int (nI l))]) (st' := [.ref (X.1 (100 + i))]) rfl ?_
      refine x_get (v := .int (nI (pN P 0 i))) rfl rfl (R.cC hi) rfl ?_
      refine x_run 1 (pc' := 39) (lv' := [(6, .ref (X.1 (100 + i))), (5, .int (nI i)), (4, .int (nI r)), (2, .long (acc)), (0, .ref (X.1 0)), (1, .int (nI l))]) (st' := [.int (nI r), .int (nI (pN P 0 i))]) rfl ?_
      refine x_if (c := ¬ nI (pN P 0 i) = nI r) (t := 76) rfl rfl (fun c2 => ?_) (fun c2 => ?_)
      · replace c2 := mt (nI_eq (by omega) (by omega)).mpr c2
        refine x_run 1 (pc' := 79) (lv' := [(5, .int (nI i + 1)), (6, .ref (X.1 (100 + i))), (4, .int (nI r)), (2, .long (acc)), (0, .ref (X.1 0)), (1, .int (nI l))]) (st' := []) rfl ?_
        rw [nI_1]
        refine x_run 1 (pc' := 14) (lv' := [(5, .int (nI (i + 1))), (6, .ref (X.1 (100 + i))), (4, .int (nI r)), (2, .long (acc)), (0, .ref (X.1 0)), (1, .int (nI l))]) (st' := []) rfl ?_
        refine x_lv (a := [(5, .int (nI (i + 1))), (4, .int (nI r)), (2, .long (acc)), (0, .ref (X.1 0)), (1, .int (nI l))]) rfl rfl ⟨rfl, rfl, rfl, rfl, rfl, trivial⟩ ?_
        rw [show p_serveI p_open r (m + 1) i P acc = p_serveI p_open r m (i + 1) P acc from by rw [p_serveI]; (rw [if_neg (by omega)]) <;> rfl] at kk
        exact ih (i + 1) _ _ _ (R.less (Nat.le_refl _) (Nat.le_succ _)) (by show _ = pn P; omega) kk
      · replace c2 := (nI_eq (by omega) (by omega)).mp (Classical.not_not.mp c2)
        refine x_run 2 (pc' := 45) (lv' := [(6, .ref (X.1 (100 + i))), (5, .int (nI i)), (4, .int (nI r)), (2, .long (acc)), (0, .ref (X.1 0)), (1, .int (nI l))]) (st' := [.ref (X.1 0), .ref (X.1 (100 + i))]) rfl ?_
        refine x_get (v := .ref (X.1 3)) rfl rfl R.c0 rfl ?_
        refine x_run 1 (pc' := 50) (lv' := [(6, .ref (X.1 (100 + i))), (5, .int (nI i)), (4, .int (nI r)), (2, .long (acc)), (0, .ref (X.1 0)), (1, .int (nI l))]) (st' := [.int (nI r), .ref (X.1 3), .ref (X.1 (100 + i))]) rfl ?_
        refine x_iald (j := r) rfl R.c3 (mm_idx_nI (by omega) (by omega)) ?_
        refine x_rd (v := .long (p_lack P i (nI (pN P 3 r)))) (k' := 44) (as := [.ref (X.1 (100 + i)), .int (nI (pN P 3 r))]) (rest := []) (x_isV (np := 1) rfl rfl rfl (R.cC hi) rfl) (c_lack R hi (nI (pN P 3 r))) ?_
        refine x_run 1 (pc' := 55) (lv' := [(6, .ref (X.1 (100 + i))), (5, .int (nI i)), (4, .int (nI r)), (2, .long (acc)), (0, .ref (X.1 0)), (1, .int (nI l))]) (st' := [.ref (X.1 0), .long (p_lack P i (nI (pN P 3 r)))]) rfl ?_
        refine x_get (v := .long (pL P 7 0)) rfl rfl R.c0 rfl ?_
        refine x_min rfl rfl rfl ?_
        refine x_run 4 (pc' := 68) (lv' := [(7, .long (p_cents P i (nI (pN P 3 r)))), (6, .ref (X.1 (100 + i))), (5, .int (nI i)), (4, .int (nI r)), (2, .long (acc)), (0, .ref (X.1 0)), (1, .int (nI l))]) (st' := [.long (p_cents P i (nI (pN P 3 r))), .ref (X.1 (100 + i)), .ref (X.1 0)]) rfl ?_
        refine x_wr0 (A := Rep u (v + m) X (p_serve (p_open P i) P i (p_cents P i (nI (pN P 3 r)))) M z) (k' := 27) (as := [.ref (X.1 0), .ref (X.1 (100 + i)), .long (p_cents P i (nI (pN P 3 r)))]) (rest := []) (x_isV (np := 2) rfl rfl rfl R.c0 rfl) (c_serve R hi _) (fun h R => ?_)
        refine x_run 5 (pc' := 79) (lv' := [(5, .int (nI i + 1)), (2, .long (acc + (p_cents P i (nI (pN P 3 r))))), (7, .long (p_cents P i (nI (pN P 3 r)))), (6, .ref (X.1 (100 + i))), (4, .int (nI r)), (0, .ref (X.1 0)), (1, .int (nI l))]) (st' := []) rfl ?_
        rw [nI_1]
        refine x_run 1 (pc' := 14) (lv' := [(5, .int (nI (i + 1))), (2, .long (acc + (p_cents P i (nI (pN P 3 r))))), (7, .long (p_cents P i (nI (pN P 3 r)))), (6, .ref (X.1 (100 + i))), (4, .int (nI r)), (0, .ref (X.1 0)), (1, .int (nI l))]) (st' := []) rfl ?_
        refine x_lv (a := [(5, .int (nI (i + 1))), (4, .int (nI r)), (2, .long (acc + (p_cents P i (nI (pN P 3 r))))), (0, .ref (X.1 0)), (1, .int (nI l))]) rfl rfl ⟨rfl, rfl, rfl, rfl, rfl, trivial⟩ ?_
        rw [show p_serveI p_open r (m + 1) i P acc = p_serveI p_open r m (i + 1) (p_serve (p_open P i) P i (p_cents P i (nI (pN P 3 r)))) (acc + (p_cents P i (nI (pN P 3 r)))) from by rw [p_serveI]; (rw [if_pos (by omega)]) <;> rfl] at kk
        exact ih (i + 1) _ _ _ R (by show _ = pn P; omega) kk
theorem l_serveR {l : Nat} (hl : l < 8) {Q : mm_O × mm_H → Prop} : ∀ (m : Nat) (r : Nat) (acc : Int64) (P : pP) (h : mm_H), Rep u (v + 60 * m) X P M z h → r + m = l + 1 → (∀ h, Rep u v X ((p_serveR p_open m r P acc).1) M z h → Wx (d + 4) 26 88 [(4, .int (nI (r + m))), (2, .long (p_serveR p_open m r P acc).2), (0, .ref (X.1 0)), (1, .int (nI l))] [] h Q) → Wx (d + 4) 26 5 [(4, .int (nI r)), (2, .long (acc)), (0, .ref (X.1 0)), (1, .int (nI l))] [] h Q := by
  intro m
  induction m with
  | zero =>
    intro r acc P h R hm kk
    refine x_run 2 (pc' := 8) (lv' := [(4, .int (nI r)), (2, .long (acc)), (0, .ref (X.1 0)), (1, .int (nI l))]) (st' := [.int (nI l), .int (nI r)]) rfl ?_
    refine x_if (c := nI l < nI r) (t := 88) rfl rfl (fun c1 => ?_) (fun c1 => ?_)
    · replace c1 := (nI_ltI (by omega) (by omega)).mp c1
      refine x_lv (a := [(4, .int (nI r)), (2, .long (acc)), (0, .ref (X.1 0)), (1, .int (nI l))]) rfl rfl ⟨rfl, rfl, rfl, rfl, trivial⟩ ?_
      exact kk h R
    · replace c1 := mt (nI_ltI (by omega) (by omega)).mpr c1
      omega
  | succ m ih =>
    intro r acc P h R hm kk
    have n60 := R.n60
    rw [show r + (m + 1) = r + 1 + m by omega] at kk
    refine x_run 2 (pc' := 8) (lv' := [(4, .int (nI r)), (2, .long (acc)), (0, .ref (X.1 0)), (1, .int (nI l))]) (st' := [.int (nI l), .int (nI r)]) rfl ?_
    refine x_if (c := nI l < nI r) (t := 88) rfl rfl (fun c1 => ?_) (fun c1 => ?_)
    · replace c1 := (nI_ltI (by omega) (by omega)).mp c1
      omega
    · replace c1 := mt (nI_ltI (by omega) (by omega)).mpr c1
      refine x_run 2 (pc' := 14) (lv' := [(5, .int (0)), (4, .int (nI r)), (2, .long (acc)), (0, .ref (X.1 0)), (1, .int (nI l))]) (st' := []) rfl ?_
      refine x_lv (a := [(5, .int (0)), (4, .int (nI r)), (2, .long (acc)), (0, .ref (X.1 0)), (1, .int (nI l))]) rfl rfl ⟨rfl, rfl, rfl, rfl, rfl, trivial⟩ ?_
      refine l_serveI (v := v + 60 * m) (by omega) hl (pn P) 0 acc P h (R.less (Nat.le_refl _) (by omega)) (by omega) (fun h R => ?_)
      refine x_run 1 (pc' := 85) (lv' := [(4, .int (nI r + 1)), (5, .int (nI (0 + pn P))), (2, .long ((p_serveI p_open r (pn P) 0 P acc).2)), (0, .ref (X.1 0)), (1, .int (nI l))]) (st' := []) rfl ?_
      rw [nI_1]
      refine x_run 1 (pc' := 5) (lv' := [(4, .int (nI (r + 1))), (5, .int (nI (0 + pn P))), (2, .long ((p_serveI p_open r (pn P) 0 P acc).2)), (0, .ref (X.1 0)), (1, .int (nI l))]) (st' := []) rfl ?_
      refine x_lv (a := [(4, .int (nI (r + 1))), (2, .long ((p_serveI p_open r (pn P) 0 P acc).2)), (0, .ref (X.1 0)), (1, .int (nI l))]) rfl rfl ⟨rfl, rfl, rfl, rfl, trivial⟩ ?_
      rw [show p_serveR p_open (m + 1) r P acc = p_serveR p_open m (r + 1) (p_serveI p_open r (pn P) 0 P acc).1 (p_serveI p_open r (pn P) 0 P acc).2 from by rw [p_serveR]] at kk
      exact ih (r + 1) _ _ _ R (by omega) kk
theorem c_through {l : Nat} (R : Rep u (v + 60 * (l + 1)) X P M z h) (hl : l < 8) : Wx (d + 4) 26 0 (lv_args 0 [.ref (X.1 0), .int (nI l)]) [] h (fun r0 => r0.1 = .inl (some (.long ((p_serveR p_open (l + 1) 0 P 0).2))) ∧ Rep u v X ((p_serveR p_open (l + 1) 0 P 0).1) M z r0.2) := by
  show Wx _ _ 0 [(0, .ref (X.1 0)), (1, .int (nI l))] [] h _
  refine x_run 4 (pc' := 5) (lv' := [(4, .int (0)), (2, .long (0)), (0, .ref (X.1 0)), (1, .int (nI l))]) (st' := []) rfl ?_
  refine x_lv (a := [(4, .int (0)), (2, .long (0)), (0, .ref (X.1 0)), (1, .int (nI l))]) rfl rfl ⟨rfl, rfl, rfl, rfl, trivial⟩ ?_
  refine l_serveR hl (l + 1) 0 0 P h R (by omega) (fun h R => ?_)
  refine x_run 1 (pc' := 89) (lv' := [(4, .int (nI (0 + (l + 1)))), (2, .long ((p_serveR p_open (l + 1) 0 P 0).2)), (0, .ref (X.1 0)), (1, .int (nI l))]) (st' := [.long ((p_serveR p_open (l + 1) 0 P 0).2)]) rfl ?_
  refine x_ret (v := some (.long ((p_serveR p_open (l + 1) 0 P 0).2))) rfl rfl rfl ⟨?_, ?_⟩
  · rfl
  · exact R
end CLS2
