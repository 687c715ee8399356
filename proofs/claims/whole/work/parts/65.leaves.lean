section LEAF
variable {u v d : Nat} {X : xX} {P M : pP} {z : zZ} {h : mm_H} {i j : Nat}
theorem c_open (R : Rep u v X P M z h) (hi : i < pn P) : Wx (d) 40 0 (lv_args 0 [.ref (X.1 (100 + i))]) [] h (fun r0 => r0 = (.inl (some (.int (bI (p_open P i)))), h)) := by
  show Wx _ _ 0 [(0, .ref (X.1 (100 + i)))] [] h _
  refine x_run 1 (pc' := 1) (lv' := [(0, .ref (X.1 (100 + i)))]) (st' := [.ref (X.1 (100 + i))]) rfl ?_
  refine x_get (v := .int (pI P 0 i)) rfl rfl (R.cC hi) rfl ?_
  refine x_run 1 (pc' := 5) (lv' := [(0, .ref (X.1 (100 + i)))]) (st' := [.int (1), .int (pI P 0 i)]) rfl ?_
  refine x_if (c := pI P 0 i = 1) (t := 23) rfl rfl (fun c1 => ?_) (fun c1 => ?_)
  · refine x_run 2 (pc' := 28) (lv' := [(0, .ref (X.1 (100 + i)))]) (st' := [.int (1)]) rfl ?_
    refine x_ret (v := some (.int (1))) rfl rfl rfl ?_
    simp [p_open, bI, c1]
  · refine x_run 1 (pc' := 9) (lv' := [(0, .ref (X.1 (100 + i)))]) (st' := [.ref (X.1 (100 + i))]) rfl ?_
    refine x_get (v := .int (pI P 0 i)) rfl rfl (R.cC hi) rfl ?_
    refine x_run 1 (pc' := 13) (lv' := [(0, .ref (X.1 (100 + i)))]) (st' := [.int (2), .int (pI P 0 i)]) rfl ?_
    refine x_if (c := pI P 0 i = 2) (t := 27) rfl rfl (fun c2 => ?_) (fun c2 => ?_)
    · refine x_run 1 (pc' := 28) (lv' := [(0, .ref (X.1 (100 + i)))]) (st' := [.int (0)]) rfl ?_
      refine x_ret (v := some (.int (0))) rfl rfl rfl ?_
      simp [p_open, bI, c1, c2]
    · refine x_run 1 (pc' := 17) (lv' := [(0, .ref (X.1 (100 + i)))]) (st' := [.ref (X.1 (100 + i))]) rfl ?_
      refine x_get (v := .int (pI P 5 i)) rfl rfl (R.cC hi) rfl ?_
      refine x_if (c := pI P 5 i ≤ 0) (t := 27) rfl rfl (fun c3 => ?_) (fun c3 => ?_)
      · refine x_run 1 (pc' := 28) (lv' := [(0, .ref (X.1 (100 + i)))]) (st' := [.int (0)]) rfl ?_
        refine x_ret (v := some (.int (0))) rfl rfl rfl ?_
        simp [p_open, bI, c1, c2, c3]
      · refine x_run 2 (pc' := 28) (lv' := [(0, .ref (X.1 (100 + i)))]) (st' := [.int (1)]) rfl ?_
        refine x_ret (v := some (.int (1))) rfl rfl rfl ?_
        simp [p_open, bI, c1, c2, c3]
theorem c_fresh (R : Rep u v X P M z h) (hi : i < pn P) : Wx (d) 41 0 (lv_args 0 [.ref (X.1 (100 + i))]) [] h (fun r0 => r0 = (.inl (some (.int (bI (p_fresh P i)))), h)) := by
  show Wx _ _ 0 [(0, .ref (X.1 (100 + i)))] [] h _
  refine x_run 1 (pc' := 1) (lv' := [(0, .ref (X.1 (100 + i)))]) (st' := [.ref (X.1 (100 + i))]) rfl ?_
  refine x_get (v := .long (pL P 3 i)) rfl rfl (R.cC hi) rfl ?_
  refine x_run 1 (pc' := 5) (lv' := [(0, .ref (X.1 (100 + i)))]) (st' := [.long (0), .long (pL P 3 i)]) rfl ?_
  refine x_lne (t := 22) rfl rfl rfl (fun c1 => ?_) (fun c1 => ?_)
  · refine x_run 1 (pc' := 23) (lv' := [(0, .ref (X.1 (100 + i)))]) (st' := [.int (0)]) rfl ?_
    refine x_ret (v := some (.int (0))) rfl rfl rfl ?_
    simp [p_fresh, bI, c1]
  · refine x_run 1 (pc' := 10) (lv' := [(0, .ref (X.1 (100 + i)))]) (st' := [.ref (X.1 (100 + i))]) rfl ?_
    refine x_get (v := .long (pL P 4 i)) rfl rfl (R.cC hi) rfl ?_
    refine x_run 1 (pc' := 14) (lv' := [(0, .ref (X.1 (100 + i)))]) (st' := [.long (0), .long (pL P 4 i)]) rfl ?_
    refine x_lne (t := 22) rfl rfl rfl (fun c2 => ?_) (fun c2 => ?_)
    · refine x_run 1 (pc' := 23) (lv' := [(0, .ref (X.1 (100 + i)))]) (st' := [.int (0)]) rfl ?_
      refine x_ret (v := some (.int (0))) rfl rfl rfl ?_
      simp [p_fresh, bI, c1, c2]
    · refine x_run 2 (pc' := 23) (lv' := [(0, .ref (X.1 (100 + i)))]) (st' := [.int (1)]) rfl ?_
      refine x_ret (v := some (.int (1))) rfl rfl rfl ?_
      simp [p_fresh, bI, c1, c2]
theorem c_net (R : Rep u v X P M z h) (hi : i < pn P) : Wx (d + 1) 42 0 (lv_args 0 [.ref (X.1 (100 + i))]) [] h (fun r0 => r0 = (.inl (some (.long (p_net P i))), h)) := by
  show Wx _ _ 0 [(0, .ref (X.1 (100 + i)))] [] h _
  refine x_run 1 (pc' := 1) (lv' := [(0, .ref (X.1 (100 + i)))]) (st' := [.ref (X.1 (100 + i))]) rfl ?_
  refine x_get (v := .int (pI P 0 i)) rfl rfl (R.cC hi) rfl ?_
  refine x_run 1 (pc' := 5) (lv' := [(0, .ref (X.1 (100 + i)))]) (st' := [.int (2), .int (pI P 0 i)]) rfl ?_
  refine x_if (c := ¬ pI P 0 i = 2) (t := 12) rfl rfl (fun c1 => ?_) (fun c1 => ?_)
  · refine x_run 2 (pc' := 14) (lv' := [(0, .ref (X.1 (100 + i)))]) (st' := [.ref (X.1 (100 + i)), .long (0)]) rfl ?_
    refine x_get (v := .long (pL P 0 i)) rfl rfl (R.cC hi) rfl ?_
    refine x_run 1 (pc' := 18) (lv' := [(0, .ref (X.1 (100 + i)))]) (st' := [.ref (X.1 (100 + i)), .long (pL P 0 i), .long (0)]) rfl ?_
    refine x_get (v := .long (pL P 1 i)) rfl rfl (R.cC hi) rfl ?_
    refine x_run 2 (pc' := 23) (lv' := [(0, .ref (X.1 (100 + i)))]) (st' := [.ref (X.1 (100 + i)), .long ((pL P 0 i) - (pL P 1 i)), .long (0)]) rfl ?_
    refine x_get (v := .long (pL P 2 i)) rfl rfl (R.cC hi) rfl ?_
    refine x_run 1 (pc' := 27) (lv' := [(0, .ref (X.1 (100 + i)))]) (st' := [.long (((pL P 0 i) - (pL P 1 i)) - (pL P 2 i)), .long (0)]) rfl ?_
    refine x_max rfl rfl rfl ?_
    refine x_ret (v := some (.long (if ((pL P 0 i) - (pL P 1 i)) - (pL P 2 i) < 0 then 0 else ((pL P 0 i) - (pL P 1 i)) - (pL P 2 i)))) rfl rfl rfl ?_
    simp [p_net, c1]
  · refine x_run 2 (pc' := 30) (lv' := [(0, .ref (X.1 (100 + i)))]) (st' := [.long (0)]) rfl ?_
    refine x_ret (v := some (.long (0))) rfl rfl rfl ?_
    simp [p_net, c1]
theorem c_due (R : Rep u v X P M z h) (hi : i < pn P) (q : Int32) : Wx (d + 2) 43 0 (lv_args 0 [.ref (X.1 (100 + i)), .int (q)]) [] h (fun r0 => r0 = (.inl (some (.long (p_due P i q))), h)) := by
  show Wx _ _ 0 [(0, .ref (X.1 (100 + i))), (1, .int (q))] [] h _
  refine x_run 1 (pc' := 1) (lv' := [(0, .ref (X.1 (100 + i))), (1, .int (q))]) (st' := [.ref (X.1 (100 + i))]) rfl ?_
  refine x_rd (v := .long (p_net P i)) (k' := 42) (as := [.ref (X.1 (100 + i))]) (rest := []) (x_isV (np := 0) rfl rfl rfl (R.cC hi) rfl) (c_net R hi) ?_
  refine x_run 3 (pc' := 7) (lv' := [(0, .ref (X.1 (100 + i))), (1, .int (q))]) (st' := [.long ((p_net P i) * ((q).toInt64))]) rfl ?_
  refine x_ldc2 (x := 10000) rfl rfl ?_
  refine x_step (pc' := 11) (lv' := _) (st' := [.long (((p_net P i) * ((q).toInt64)) / 10000)]) (h' := _) rfl rfl ?_
  refine x_ret (v := some (.long (((p_net P i) * ((q).toInt64)) / 10000))) rfl rfl rfl ?_
  simp [p_due]
theorem c_lack (R : Rep u v X P M z h) (hi : i < pn P) (q : Int32) : Wx (d + 3) 44 0 (lv_args 0 [.ref (X.1 (100 + i)), .int (q)]) [] h (fun r0 => r0 = (.inl (some (.long (p_lack P i q))), h)) := by
  show Wx _ _ 0 [(0, .ref (X.1 (100 + i))), (1, .int (q))] [] h _
  refine x_run 3 (pc' := 3) (lv' := [(0, .ref (X.1 (100 + i))), (1, .int (q))]) (st' := [.int (q), .ref (X.1 (100 + i)), .long (0)]) rfl ?_
  refine x_rd (v := .long (p_due P i q)) (k' := 43) (as := [.ref (X.1 (100 + i)), .int (q)]) (rest := [.long (0)]) (x_isV (np := 1) rfl rfl rfl (R.cC hi) rfl) (c_due R hi q) ?_
  refine x_run 1 (pc' := 7) (lv' := [(0, .ref (X.1 (100 + i))), (1, .int (q))]) (st' := [.ref (X.1 (100 + i)), .long (p_due P i q), .long (0)]) rfl ?_
  refine x_get (v := .long (pL P 3 i)) rfl rfl (R.cC hi) rfl ?_
  refine x_run 2 (pc' := 12) (lv' := [(0, .ref (X.1 (100 + i))), (1, .int (q))]) (st' := [.ref (X.1 (100 + i)), .long ((p_due P i q) - (pL P 3 i)), .long (0)]) rfl ?_
  refine x_get (v := .long (pL P 4 i)) rfl rfl (R.cC hi) rfl ?_
  refine x_run 1 (pc' := 16) (lv' := [(0, .ref (X.1 (100 + i))), (1, .int (q))]) (st' := [.long (((p_due P i q) - (pL P 3 i)) - (pL P 4 i)), .long (0)]) rfl ?_
  refine x_max rfl rfl rfl ?_
  refine x_ret (v := some (.long (if ((p_due P i q) - (pL P 3 i)) - (pL P 4 i) < 0 then 0 else ((p_due P i q) - (pL P 3 i)) - (pL P 4 i)))) rfl rfl rfl ?_
  simp [p_lack]
theorem c_unpaid (R : Rep u v X P M z h) (hi : i < pn P) : Wx (d + 2) 45 0 (lv_args 0 [.ref (X.1 (100 + i))]) [] h (fun r0 => r0 = (.inl (some (.long (p_unpaid P i))), h)) := by
  show Wx _ _ 0 [(0, .ref (X.1 (100 + i)))] [] h _
  refine x_run 2 (pc' := 2) (lv' := [(0, .ref (X.1 (100 + i)))]) (st' := [.ref (X.1 (100 + i)), .long (0)]) rfl ?_
  refine x_rd (v := .long (p_net P i)) (k' := 42) (as := [.ref (X.1 (100 + i))]) (rest := [.long (0)]) (x_isV (np := 0) rfl rfl rfl (R.cC hi) rfl) (c_net R hi) ?_
  refine x_run 1 (pc' := 6) (lv' := [(0, .ref (X.1 (100 + i)))]) (st' := [.ref (X.1 (100 + i)), .long (p_net P i), .long (0)]) rfl ?_
  refine x_get (v := .long (pL P 3 i)) rfl rfl (R.cC hi) rfl ?_
  refine x_run 1 (pc' := 10) (lv' := [(0, .ref (X.1 (100 + i)))]) (st' := [.long ((p_net P i) - (pL P 3 i)), .long (0)]) rfl ?_
  refine x_max rfl rfl rfl ?_
  refine x_ret (v := some (.long (if (p_net P i) - (pL P 3 i) < 0 then 0 else (p_net P i) - (pL P 3 i)))) rfl rfl rfl ?_
  simp [p_unpaid]
theorem c_keeps (R : Rep u v X P M z h) (q : Int32) : Wx (d) 52 0 (lv_args 0 [.ref (X.1 4), .int (q)]) [] h (fun r0 => r0 = (.inl (some (.int (bI (p_keeps P q)))), h)) := by
  show Wx _ _ 0 [(0, .ref (X.1 4)), (1, .int (q))] [] h _
  refine x_run 1 (pc' := 1) (lv' := [(0, .ref (X.1 4)), (1, .int (q))]) (st' := [.int (q)]) rfl ?_
  refine x_if (c := q < 0) (t := 23) rfl rfl (fun c1 => ?_) (fun c1 => ?_)
  · refine x_run 1 (pc' := 24) (lv' := [(0, .ref (X.1 4)), (1, .int (q))]) (st' := [.int (0)]) rfl ?_
    refine x_ret (v := some (.int (0))) rfl rfl rfl ?_
    simp [p_keeps, bI, c1]
  · refine x_run 2 (pc' := 6) (lv' := [(0, .ref (X.1 4)), (1, .int (q))]) (st' := [.ref (X.1 4), .int (q)]) rfl ?_
    refine x_get (v := .int (nI (pj P))) rfl rfl R.c4 rfl ?_
    refine x_if (c := nI (pj P) ≤ q) (t := 23) rfl rfl (fun c2 => ?_) (fun c2 => ?_)
    · refine x_run 1 (pc' := 24) (lv' := [(0, .ref (X.1 4)), (1, .int (q))]) (st' := [.int (0)]) rfl ?_
      refine x_ret (v := some (.int (0))) rfl rfl rfl ?_
      simp [p_keeps, bI, c1, c2]
    · refine x_run 2 (pc' := 16) (lv' := [(0, .ref (X.1 4)), (1, .int (q))]) (st' := [.int (3000), .int (q)]) rfl ?_
      refine x_if (c := 3000 ≤ q) (t := 23) rfl rfl (fun c3 => ?_) (fun c3 => ?_)
      · refine x_run 1 (pc' := 24) (lv' := [(0, .ref (X.1 4)), (1, .int (q))]) (st' := [.int (0)]) rfl ?_
        refine x_ret (v := some (.int (0))) rfl rfl rfl ?_
        simp [p_keeps, bI, c1, c2, c3]
      · refine x_run 2 (pc' := 24) (lv' := [(0, .ref (X.1 4)), (1, .int (q))]) (st' := [.int (1)]) rfl ?_
        refine x_ret (v := some (.int (1))) rfl rfl rfl ?_
        simp [p_keeps, bI, c1, c2, c3]
theorem c_note (R : Rep u (v + 1) X P M z h) (kk ow : Int32) (c : Int64) : Wx (d) 51 0 (lv_args 0 [.ref (X.1 4), .int (kk), .int (ow), .long (c)]) [] h (fun r => r.1 = .inl none ∧ Rep u v X (p_note P kk ow c) M z r.2) := by
  have jb := R.wP.2.2.1
  show Wx _ _ 0 [(0, .ref (X.1 4)), (1, .int (kk)), (2, .int (ow)), (3, .long (c))] [] h _
  refine x_run 2 (pc' := 2) (lv' := [(0, .ref (X.1 4)), (1, .int (kk)), (2, .int (ow)), (3, .long (c))]) (st' := [.long (0), .long (c)]) rfl ?_
  refine x_lne (t := 7) rfl rfl rfl (fun c1 => ?_) (fun c1 => ?_)
  · refine x_run 1 (pc' := 8) (lv' := [(0, .ref (X.1 4)), (1, .int (kk)), (2, .int (ow)), (3, .long (c))]) (st' := [.ref (X.1 4)]) rfl ?_
    refine x_get (v := .int (nI (pj P))) rfl rfl R.c4 rfl ?_
    refine x_run 1 (pc' := 14) (lv' := [(0, .ref (X.1 4)), (1, .int (kk)), (2, .int (ow)), (3, .long (c))]) (st' := [.int (3000), .int (nI (pj P))]) rfl ?_
    refine x_if (c := nI 3000 ≤ nI (pj P)) (t := 47) rfl rfl (fun c2 => ?_) (fun c2 => ?_)
    · replace c2 := (nI_leI (by omega) (by omega)).mp c2
      refine x_run 2 (pc' := 49) (lv' := [(0, .ref (X.1 4)), (1, .int (kk)), (2, .int (ow)), (3, .long (c))]) (st' := [.ref (X.1 4), .ref (X.1 4)]) rfl ?_
      refine x_get (v := .int (nI (pj P))) rfl rfl R.c4 rfl ?_
      refine x_run 2 (pc' := 54) (lv' := [(0, .ref (X.1 4)), (1, .int (kk)), (2, .int (ow)), (3, .long (c))]) (st' := [.int ((nI (pj P)) + (nI 1)), .ref (X.1 4)]) rfl ?_
      rw [nI_add]
      refine x_put rfl rfl R.c4 rfl ?_
      refine gen_h (A := Rep u v X (sC P (pn P) (pa P) (pj P + 1)) M z) (R.uCount) (fun h R => ?_)
      refine x_ret (v := none) rfl rfl rfl ⟨rfl, ?_⟩
      show Rep u v X (p_note P kk ow c) M z h
      rw [p_note_2 P kk ow c1 (by omega)]
      exact R
    · replace c2 := mt (nI_leI (by omega) (by omega)).mpr c2
      refine x_run 1 (pc' := 18) (lv' := [(0, .ref (X.1 4)), (1, .int (kk)), (2, .int (ow)), (3, .long (c))]) (st' := [.ref (X.1 4)]) rfl ?_
      refine x_get (v := .ref (X.1 5)) rfl rfl R.c4 rfl ?_
      refine x_run 1 (pc' := 22) (lv' := [(0, .ref (X.1 4)), (1, .int (kk)), (2, .int (ow)), (3, .long (c))]) (st' := [.ref (X.1 4), .ref (X.1 5)]) rfl ?_
      refine x_get (v := .int (nI (pj P))) rfl rfl R.c4 rfl ?_
      refine x_run 1 (pc' := 26) (lv' := [(0, .ref (X.1 4)), (1, .int (kk)), (2, .int (ow)), (3, .long (c))]) (st' := [.int (kk), .int (nI (pj P)), .ref (X.1 5)]) rfl ?_
      refine x_iast (j := pj P) rfl R.c5 (mm_idx_nI (by omega) (by omega)) ?_
      refine gen_h (A := Rep u (v + 1) X (sI P 2 (pj P) (kk)) M z) (R.uKind _) (fun h R => ?_)
      refine x_run 1 (pc' := 28) (lv' := [(0, .ref (X.1 4)), (1, .int (kk)), (2, .int (ow)), (3, .long (c))]) (st' := [.ref (X.1 4)]) rfl ?_
      refine x_get (v := .ref (X.1 6)) rfl rfl R.c4 rfl ?_
      refine x_run 1 (pc' := 32) (lv' := [(0, .ref (X.1 4)), (1, .int (kk)), (2, .int (ow)), (3, .long (c))]) (st' := [.ref (X.1 4), .ref (X.1 6)]) rfl ?_
      refine x_get (v := .int (nI (pj P))) rfl rfl R.c4 rfl ?_
      refine x_run 1 (pc' := 36) (lv' := [(0, .ref (X.1 4)), (1, .int (kk)), (2, .int (ow)), (3, .long (c))]) (st' := [.int (ow), .int (nI (pj P)), .ref (X.1 6)]) rfl ?_
      refine x_iast (j := pj P) rfl R.c6 (mm_idx_nI (by omega) (by omega)) ?_
      refine gen_h (A := Rep u (v + 1) X (sI (sI P 2 (pj P) (kk)) 3 (pj P) (ow)) M z) (R.uOwner _) (fun h R => ?_)
      refine x_run 1 (pc' := 38) (lv' := [(0, .ref (X.1 4)), (1, .int (kk)), (2, .int (ow)), (3, .long (c))]) (st' := [.ref (X.1 4)]) rfl ?_
      refine x_get (v := .ref (X.1 7)) rfl rfl R.c4 rfl ?_
      refine x_run 1 (pc' := 42) (lv' := [(0, .ref (X.1 4)), (1, .int (kk)), (2, .int (ow)), (3, .long (c))]) (st' := [.ref (X.1 4), .ref (X.1 7)]) rfl ?_
      refine x_get (v := .int (nI (pj P))) rfl rfl R.c4 rfl ?_
      refine x_run 1 (pc' := 46) (lv' := [(0, .ref (X.1 4)), (1, .int (kk)), (2, .int (ow)), (3, .long (c))]) (st' := [.long (c), .int (nI (pj P)), .ref (X.1 7)]) rfl ?_
      refine x_last (j := pj P) rfl R.c7 (mm_idx_nI (by omega) (by omega)) ?_
      refine gen_h (A := Rep u (v + 1) X (sL (sI (sI P 2 (pj P) (kk)) 3 (pj P) (ow)) 6 (pj P) (c)) M z) (R.uCents _) (fun h R => ?_)
      refine x_run 2 (pc' := 49) (lv' := [(0, .ref (X.1 4)), (1, .int (kk)), (2, .int (ow)), (3, .long (c))]) (st' := [.ref (X.1 4), .ref (X.1 4)]) rfl ?_
      refine x_get (v := .int (nI (pj P))) rfl rfl R.c4 rfl ?_
      refine x_run 2 (pc' := 54) (lv' := [(0, .ref (X.1 4)), (1, .int (kk)), (2, .int (ow)), (3, .long (c))]) (st' := [.int ((nI (pj P)) + (nI 1)), .ref (X.1 4)]) rfl ?_
      rw [nI_add]
      refine x_put rfl rfl R.c4 rfl ?_
      refine gen_h (A := Rep u v X (sC (sL (sI (sI P 2 (pj P) (kk)) 3 (pj P) (ow)) 6 (pj P) (c)) (pn (sL (sI (sI P 2 (pj P) (kk)) 3 (pj P) (ow)) 6 (pj P) (c))) (pa (sL (sI (sI P 2 (pj P) (kk)) 3 (pj P) (ow)) 6 (pj P) (c))) (pj P + 1)) M z) (R.uCount) (fun h R => ?_)
      refine x_ret (v := none) rfl rfl rfl ⟨rfl, ?_⟩
      show Rep u v X (p_note P kk ow c) M z h
      rw [p_note_1 P kk ow c1 (by omega)]
      exact R
  · refine x_ret (v := none) rfl rfl rfl ⟨rfl, ?_⟩
    show Rep u v X (p_note P kk ow c) M z h
    rw [p_note_0 P kk ow c1]
    exact R.less (Nat.le_refl _) (Nat.le_succ _)
end LEAF
