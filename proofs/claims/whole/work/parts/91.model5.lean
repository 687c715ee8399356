section MOD5
variable {u v d : Nat} {X : xX} {P M : pP} {z : zZ} {h : mm_H} {i j : Nat}
theorem k_told0 (R : Rep u v X P M z h) (hi : i < pn M) : Wx (d + 4) 90 0 (lv_args 0 [.ref (X.1 8), .int (nI i), .int ((0 : Int32))]) [] h (mQ u v X P z (0, some (.long ((nI (pN M 0 i)).toInt64)), M)) := by
  have m60 := R.m60
  show Wx _ _ 0 [(0, .ref (X.1 8)), (1, .int (nI i)), (2, .int ((0 : Int32)))] [] h _
  refine x_run 3 (pc' := 3) (lv' := [(0, .ref (X.1 8)), (1, .int (nI i)), (2, .int ((0 : Int32)))]) (st' := [.int (nI i), .ref (X.1 8), .ref (X.1 8)]) rfl ?_
  refine x_rd (v := .int (bI (true))) (k' := 56) (as := [.ref (X.1 8), .int (nI i)]) (rest := [.ref (X.1 8)]) (x_isV (np := 1) rfl rfl rfl R.c8 rfl) (k_isCt R hi) ?_
  refine x_if (c := ¬ bI (true) = 0) (t := 13) rfl rfl (fun c1 => ?_) (fun c1 => ?_)
  · replace c1 := bI_n0 c1
    refine x_run 3 (pc' := 16) (lv' := [(0, .ref (X.1 8)), (1, .int (nI i)), (2, .int ((0 : Int32)))]) (st' := [.long (0), .long (((0 : Int32)).toInt64), .ref (X.1 8)]) rfl ?_
    refine x_ldc2 (x := 9) rfl rfl ?_
    refine x_rd (v := .int (bI (true))) (k' := 55) (as := [.long (((0 : Int32)).toInt64), .long (0), .long (9)]) (rest := [.ref (X.1 8)]) (x_isS (np := 3) rfl rfl rfl rfl rfl) (k_inE (by decide)) ?_
    refine x_if (c := bI (true) = 0) (t := 29) rfl rfl (fun c2 => ?_) (fun c2 => ?_)
    · replace c2 := bI_0.mp c2
      cases c2
    · replace c2 := bI_n0 c2
      refine x_run 2 (pc' := 30) (lv' := [(0, .ref (X.1 8)), (1, .int (nI i)), (2, .int ((0 : Int32)))]) (st' := [.int (0), .ref (X.1 8)]) rfl ?_
      refine x_put rfl rfl R.c8 rfl ?_
      refine gen_h (A := Rep u v X P M ((0, z.2))) (R.mCode _) (fun h R => ?_)
      refine x_run 1 (pc' := 34) (lv' := [(0, .ref (X.1 8)), (1, .int (nI i)), (2, .int ((0 : Int32)))]) (st' := [.ref (X.1 8)]) rfl ?_
      refine x_get (v := .int (0)) rfl rfl R.c8 rfl ?_
      refine x_if (c := nI 0 ≤ nI 0) (t := 42) rfl rfl (fun c3 => ?_) (fun c3 => ?_)
      · replace c3 := (nI_leI (by omega) (by omega)).mp c3
        refine x_run 1 (pc' := 43) (lv' := [(0, .ref (X.1 8)), (1, .int (nI i)), (2, .int ((0 : Int32)))]) (st' := [.int ((0 : Int32))]) rfl ?_
        refine x_step (pc' := 92) (lv' := [(0, .ref (X.1 8)), (1, .int (nI i)), (2, .int ((0 : Int32)))]) (st' := []) (h' := h) rfl rfl ?_
        refine x_run 1 (pc' := 93) (lv' := [(0, .ref (X.1 8)), (1, .int (nI i)), (2, .int ((0 : Int32)))]) (st' := [.ref (X.1 8)]) rfl ?_
        refine x_get (v := .ref (X.1 9)) rfl rfl R.c8 rfl ?_
        refine x_run 1 (pc' := 97) (lv' := [(0, .ref (X.1 8)), (1, .int (nI i)), (2, .int ((0 : Int32)))]) (st' := [.int (nI i), .ref (X.1 9)]) rfl ?_
        refine x_iald (j := i) rfl R.c9 (mm_idx_nI (by omega) (by omega)) ?_
        refine x_run 1 (pc' := 99) (lv' := [(0, .ref (X.1 8)), (1, .int (nI i)), (2, .int ((0 : Int32)))]) (st' := [.long ((nI (pN M 0 i)).toInt64)]) rfl ?_
        exact x_ret (v := some (.long ((nI (pN M 0 i)).toInt64))) rfl rfl rfl ⟨rfl, _, fun _ => rfl, R⟩
      · replace c3 := mt (nI_leI (by omega) (by omega)).mpr c3
        omega
  · replace c1 := bI_0.mp (Classical.not_not.mp c1)
    cases c1
theorem k_told1 (R : Rep u v X P M z h) (hi : i < pn M) : Wx (d + 4) 90 0 (lv_args 0 [.ref (X.1 8), .int (nI i), .int ((1 : Int32))]) [] h (mQ u v X P z (0, some (.long ((pI M 0 i).toInt64)), M)) := by
  have m60 := R.m60
  show Wx _ _ 0 [(0, .ref (X.1 8)), (1, .int (nI i)), (2, .int ((1 : Int32)))] [] h _
  refine x_run 3 (pc' := 3) (lv' := [(0, .ref (X.1 8)), (1, .int (nI i)), (2, .int ((1 : Int32)))]) (st' := [.int (nI i), .ref (X.1 8), .ref (X.1 8)]) rfl ?_
  refine x_rd (v := .int (bI (true))) (k' := 56) (as := [.ref (X.1 8), .int (nI i)]) (rest := [.ref (X.1 8)]) (x_isV (np := 1) rfl rfl rfl R.c8 rfl) (k_isCt R hi) ?_
  refine x_if (c := ¬ bI (true) = 0) (t := 13) rfl rfl (fun c1 => ?_) (fun c1 => ?_)
  · replace c1 := bI_n0 c1
    refine x_run 3 (pc' := 16) (lv' := [(0, .ref (X.1 8)), (1, .int (nI i)), (2, .int ((1 : Int32)))]) (st' := [.long (0), .long (((1 : Int32)).toInt64), .ref (X.1 8)]) rfl ?_
    refine x_ldc2 (x := 9) rfl rfl ?_
    refine x_rd (v := .int (bI (true))) (k' := 55) (as := [.long (((1 : Int32)).toInt64), .long (0), .long (9)]) (rest := [.ref (X.1 8)]) (x_isS (np := 3) rfl rfl rfl rfl rfl) (k_inE (by decide)) ?_
    refine x_if (c := bI (true) = 0) (t := 29) rfl rfl (fun c2 => ?_) (fun c2 => ?_)
    · replace c2 := bI_0.mp c2
      cases c2
    · replace c2 := bI_n0 c2
      refine x_run 2 (pc' := 30) (lv' := [(0, .ref (X.1 8)), (1, .int (nI i)), (2, .int ((1 : Int32)))]) (st' := [.int (0), .ref (X.1 8)]) rfl ?_
      refine x_put rfl rfl R.c8 rfl ?_
      refine gen_h (A := Rep u v X P M ((0, z.2))) (R.mCode _) (fun h R => ?_)
      refine x_run 1 (pc' := 34) (lv' := [(0, .ref (X.1 8)), (1, .int (nI i)), (2, .int ((1 : Int32)))]) (st' := [.ref (X.1 8)]) rfl ?_
      refine x_get (v := .int (0)) rfl rfl R.c8 rfl ?_
      refine x_if (c := nI 0 ≤ nI 0) (t := 42) rfl rfl (fun c3 => ?_) (fun c3 => ?_)
      · replace c3 := (nI_leI (by omega) (by omega)).mp c3
        refine x_run 1 (pc' := 43) (lv' := [(0, .ref (X.1 8)), (1, .int (nI i)), (2, .int ((1 : Int32)))]) (st' := [.int ((1 : Int32))]) rfl ?_
        refine x_step (pc' := 100) (lv' := [(0, .ref (X.1 8)), (1, .int (nI i)), (2, .int ((1 : Int32)))]) (st' := []) (h' := h) rfl rfl ?_
        refine x_run 1 (pc' := 101) (lv' := [(0, .ref (X.1 8)), (1, .int (nI i)), (2, .int ((1 : Int32)))]) (st' := [.ref (X.1 8)]) rfl ?_
        refine x_get (v := .ref (X.1 15)) rfl rfl R.c8 rfl ?_
        refine x_run 1 (pc' := 105) (lv' := [(0, .ref (X.1 8)), (1, .int (nI i)), (2, .int ((1 : Int32)))]) (st' := [.int (nI i), .ref (X.1 15)]) rfl ?_
        refine x_iald (j := i) rfl R.c15 (mm_idx_nI (by omega) (by omega)) ?_
        refine x_run 1 (pc' := 107) (lv' := [(0, .ref (X.1 8)), (1, .int (nI i)), (2, .int ((1 : Int32)))]) (st' := [.long ((pI M 0 i).toInt64)]) rfl ?_
        exact x_ret (v := some (.long ((pI M 0 i).toInt64))) rfl rfl rfl ⟨rfl, _, fun _ => rfl, R⟩
      · replace c3 := mt (nI_leI (by omega) (by omega)).mpr c3
        omega
  · replace c1 := bI_0.mp (Classical.not_not.mp c1)
    cases c1
theorem k_told2 (R : Rep u v X P M z h) (hi : i < pn M) : Wx (d + 4) 90 0 (lv_args 0 [.ref (X.1 8), .int (nI i), .int ((2 : Int32))]) [] h (mQ u v X P z (0, some (.long (pL M 0 i)), M)) := by
  have m60 := R.m60
  show Wx _ _ 0 [(0, .ref (X.1 8)), (1, .int (nI i)), (2, .int ((2 : Int32)))] [] h _
  refine x_run 3 (pc' := 3) (lv' := [(0, .ref (X.1 8)), (1, .int (nI i)), (2, .int ((2 : Int32)))]) (st' := [.int (nI i), .ref (X.1 8), .ref (X.1 8)]) rfl ?_
  refine x_rd (v := .int (bI (true))) (k' := 56) (as := [.ref (X.1 8), .int (nI i)]) (rest := [.ref (X.1 8)]) (x_isV (np := 1) rfl rfl rfl R.c8 rfl) (k_isCt R hi) ?_
  refine x_if (c := ¬ bI (true) = 0) (t := 13) rfl rfl (fun c1 => ?_) (fun c1 => ?_)
  · replace c1 := bI_n0 c1
    refine x_run 3 (pc' := 16) (lv' := [(0, .ref (X.1 8)), (1, .int (nI i)), (2, .int ((2 : Int32)))]) (st' := [.long (0), .long (((2 : Int32)).toInt64), .ref (X.1 8)]) rfl ?_
    refine x_ldc2 (x := 9) rfl rfl ?_
    refine x_rd (v := .int (bI (true))) (k' := 55) (as := [.long (((2 : Int32)).toInt64), .long (0), .long (9)]) (rest := [.ref (X.1 8)]) (x_isS (np := 3) rfl rfl rfl rfl rfl) (k_inE (by decide)) ?_
    refine x_if (c := bI (true) = 0) (t := 29) rfl rfl (fun c2 => ?_) (fun c2 => ?_)
    · replace c2 := bI_0.mp c2
      cases c2
    · replace c2 := bI_n0 c2
      refine x_run 2 (pc' := 30) (lv' := [(0, .ref (X.1 8)), (1, .int (nI i)), (2, .int ((2 : Int32)))]) (st' := [.int (0), .ref (X.1 8)]) rfl ?_
      refine x_put rfl rfl R.c8 rfl ?_
      refine gen_h (A := Rep u v X P M ((0, z.2))) (R.mCode _) (fun h R => ?_)
      refine x_run 1 (pc' := 34) (lv' := [(0, .ref (X.1 8)), (1, .int (nI i)), (2, .int ((2 : Int32)))]) (st' := [.ref (X.1 8)]) rfl ?_
      refine x_get (v := .int (0)) rfl rfl R.c8 rfl ?_
      refine x_if (c := nI 0 ≤ nI 0) (t := 42) rfl rfl (fun c3 => ?_) (fun c3 => ?_)
      · replace c3 := (nI_leI (by omega) (by omega)).mp c3
        refine x_run 1 (pc' := 43) (lv' := [(0, .ref (X.1 8)), (1, .int (nI i)), (2, .int ((2 : Int32)))]) (st' := [.int ((2 : Int32))]) rfl ?_
        refine x_step (pc' := 108) (lv' := [(0, .ref (X.1 8)), (1, .int (nI i)), (2, .int ((2 : Int32)))]) (st' := []) (h' := h) rfl rfl ?_
        refine x_run 1 (pc' := 109) (lv' := [(0, .ref (X.1 8)), (1, .int (nI i)), (2, .int ((2 : Int32)))]) (st' := [.ref (X.1 8)]) rfl ?_
        refine x_get (v := .ref (X.1 10)) rfl rfl R.c8 rfl ?_
        refine x_run 1 (pc' := 113) (lv' := [(0, .ref (X.1 8)), (1, .int (nI i)), (2, .int ((2 : Int32)))]) (st' := [.int (nI i), .ref (X.1 10)]) rfl ?_
        refine x_lald (j := i) rfl R.c10 (mm_idx_nI (by omega) (by omega)) ?_
        exact x_ret (v := some (.long (pL M 0 i))) rfl rfl rfl ⟨rfl, _, fun _ => rfl, R⟩
      · replace c3 := mt (nI_leI (by omega) (by omega)).mpr c3
        omega
  · replace c1 := bI_0.mp (Classical.not_not.mp c1)
    cases c1
theorem k_told3 (R : Rep u v X P M z h) (hi : i < pn M) : Wx (d + 4) 90 0 (lv_args 0 [.ref (X.1 8), .int (nI i), .int ((3 : Int32))]) [] h (mQ u v X P z (0, some (.long (pL M 1 i)), M)) := by
  have m60 := R.m60
  show Wx _ _ 0 [(0, .ref (X.1 8)), (1, .int (nI i)), (2, .int ((3 : Int32)))] [] h _
  refine x_run 3 (pc' := 3) (lv' := [(0, .ref (X.1 8)), (1, .int (nI i)), (2, .int ((3 : Int32)))]) (st' := [.int (nI i), .ref (X.1 8), .ref (X.1 8)]) rfl ?_
  refine x_rd (v := .int (bI (true))) (k' := 56) (as := [.ref (X.1 8), .int (nI i)]) (rest := [.ref (X.1 8)]) (x_isV (np := 1) rfl rfl rfl R.c8 rfl) (k_isCt R hi) ?_
  refine x_if (c := ¬ bI (true) = 0) (t := 13) rfl rfl (fun c1 => ?_) (fun c1 => ?_)
  · replace c1 := bI_n0 c1
    refine x_run 3 (pc' := 16) (lv' := [(0, .ref (X.1 8)), (1, .int (nI i)), (2, .int ((3 : Int32)))]) (st' := [.long (0), .long (((3 : Int32)).toInt64), .ref (X.1 8)]) rfl ?_
    refine x_ldc2 (x := 9) rfl rfl ?_
    refine x_rd (v := .int (bI (true))) (k' := 55) (as := [.long (((3 : Int32)).toInt64), .long (0), .long (9)]) (rest := [.ref (X.1 8)]) (x_isS (np := 3) rfl rfl rfl rfl rfl) (k_inE (by decide)) ?_
    refine x_if (c := bI (true) = 0) (t := 29) rfl rfl (fun c2 => ?_) (fun c2 => ?_)
    · replace c2 := bI_0.mp c2
      cases c2
    · replace c2 := bI_n0 c2
      refine x_run 2 (pc' := 30) (lv' := [(0, .ref (X.1 8)), (1, .int (nI i)), (2, .int ((3 : Int32)))]) (st' := [.int (0), .ref (X.1 8)]) rfl ?_
      refine x_put rfl rfl R.c8 rfl ?_
      refine gen_h (A := Rep u v X P M ((0, z.2))) (R.mCode _) (fun h R => ?_)
      refine x_run 1 (pc' := 34) (lv' := [(0, .ref (X.1 8)), (1, .int (nI i)), (2, .int ((3 : Int32)))]) (st' := [.ref (X.1 8)]) rfl ?_
      refine x_get (v := .int (0)) rfl rfl R.c8 rfl ?_
      refine x_if (c := nI 0 ≤ nI 0) (t := 42) rfl rfl (fun c3 => ?_) (fun c3 => ?_)
      · replace c3 := (nI_leI (by omega) (by omega)).mp c3
        refine x_run 1 (pc' := 43) (lv' := [(0, .ref (X.1 8)), (1, .int (nI i)), (2, .int ((3 : Int32)))]) (st' := [.int ((3 : Int32))]) rfl ?_
        refine x_step (pc' := 115) (lv' := [(0, .ref (X.1 8)), (1, .int (nI i)), (2, .int ((3 : Int32)))]) (st' := []) (h' := h) rfl rfl ?_
        refine x_run 1 (pc' := 116) (lv' := [(0, .ref (X.1 8)), (1, .int (nI i)), (2, .int ((3 : Int32)))]) (st' := [.ref (X.1 8)]) rfl ?_
        refine x_get (v := .ref (X.1 11)) rfl rfl R.c8 rfl ?_
        refine x_run 1 (pc' := 120) (lv' := [(0, .ref (X.1 8)), (1, .int (nI i)), (2, .int ((3 : Int32)))]) (st' := [.int (nI i), .ref (X.1 11)]) rfl ?_
        refine x_lald (j := i) rfl R.c11 (mm_idx_nI (by omega) (by omega)) ?_
        exact x_ret (v := some (.long (pL M 1 i))) rfl rfl rfl ⟨rfl, _, fun _ => rfl, R⟩
      · replace c3 := mt (nI_leI (by omega) (by omega)).mpr c3
        omega
  · replace c1 := bI_0.mp (Classical.not_not.mp c1)
    cases c1
theorem k_told4 (R : Rep u v X P M z h) (hi : i < pn M) : Wx (d + 4) 90 0 (lv_args 0 [.ref (X.1 8), .int (nI i), .int ((4 : Int32))]) [] h (mQ u v X P z (0, some (.long (pL M 2 i)), M)) := by
  have m60 := R.m60
  show Wx _ _ 0 [(0, .ref (X.1 8)), (1, .int (nI i)), (2, .int ((4 : Int32)))] [] h _
  refine x_run 3 (pc' := 3) (lv' := [(0, .ref (X.1 8)), (1, .int (nI i)), (2, .int ((4 : Int32)))]) (st' := [.int (nI i), .ref (X.1 8), .ref (X.1 8)]) rfl ?_
  refine x_rd (v := .int (bI (true))) (k' := 56) (as := [.ref (X.1 8), .int (nI i)]) (rest := [.ref (X.1 8)]) (x_isV (np := 1) rfl rfl rfl R.c8 rfl) (k_isCt R hi) ?_
  refine x_if (c := ¬ bI (true) = 0) (t := 13) rfl rfl (fun c1 => ?_) (fun c1 => ?_)
  · replace c1 := bI_n0 c1
    refine x_run 3 (pc' := 16) (lv' := [(0, .ref (X.1 8)), (1, .int (nI i)), (2, .int ((4 : Int32)))]) (st' := [.long (0), .long (((4 : Int32)).toInt64), .ref (X.1 8)]) rfl ?_
    refine x_ldc2 (x := 9) rfl rfl ?_
    refine x_rd (v := .int (bI (true))) (k' := 55) (as := [.long (((4 : Int32)).toInt64), .long (0), .long (9)]) (rest := [.ref (X.1 8)]) (x_isS (np := 3) rfl rfl rfl rfl rfl) (k_inE (by decide)) ?_
    refine x_if (c := bI (true) = 0) (t := 29) rfl rfl (fun c2 => ?_) (fun c2 => ?_)
    · replace c2 := bI_0.mp c2
      cases c2
    · replace c2 := bI_n0 c2
      refine x_run 2 (pc' := 30) (lv' := [(0, .ref (X.1 8)), (1, .int (nI i)), (2, .int ((4 : Int32)))]) (st' := [.int (0), .ref (X.1 8)]) rfl ?_
      refine x_put rfl rfl R.c8 rfl ?_
      refine gen_h (A := Rep u v X P M ((0, z.2))) (R.mCode _) (fun h R => ?_)
      refine x_run 1 (pc' := 34) (lv' := [(0, .ref (X.1 8)), (1, .int (nI i)), (2, .int ((4 : Int32)))]) (st' := [.ref (X.1 8)]) rfl ?_
      refine x_get (v := .int (0)) rfl rfl R.c8 rfl ?_
      refine x_if (c := nI 0 ≤ nI 0) (t := 42) rfl rfl (fun c3 => ?_) (fun c3 => ?_)
      · replace c3 := (nI_leI (by omega) (by omega)).mp c3
        refine x_run 1 (pc' := 43) (lv' := [(0, .ref (X.1 8)), (1, .int (nI i)), (2, .int ((4 : Int32)))]) (st' := [.int ((4 : Int32))]) rfl ?_
        refine x_step (pc' := 122) (lv' := [(0, .ref (X.1 8)), (1, .int (nI i)), (2, .int ((4 : Int32)))]) (st' := []) (h' := h) rfl rfl ?_
        refine x_run 1 (pc' := 123) (lv' := [(0, .ref (X.1 8)), (1, .int (nI i)), (2, .int ((4 : Int32)))]) (st' := [.ref (X.1 8)]) rfl ?_
        refine x_get (v := .ref (X.1 12)) rfl rfl R.c8 rfl ?_
        refine x_run 1 (pc' := 127) (lv' := [(0, .ref (X.1 8)), (1, .int (nI i)), (2, .int ((4 : Int32)))]) (st' := [.int (nI i), .ref (X.1 12)]) rfl ?_
        refine x_lald (j := i) rfl R.c12 (mm_idx_nI (by omega) (by omega)) ?_
        exact x_ret (v := some (.long (pL M 2 i))) rfl rfl rfl ⟨rfl, _, fun _ => rfl, R⟩
      · replace c3 := mt (nI_leI (by omega) (by omega)).mpr c3
        omega
  · replace c1 := bI_0.mp (Classical.not_not.mp c1)
    cases c1
theorem k_told5 (R : Rep u v X P M z h) (hi : i < pn M) : Wx (d + 4) 90 0 (lv_args 0 [.ref (X.1 8), .int (nI i), .int ((5 : Int32))]) [] h (mQ u v X P z (0, some (.long (pL M 3 i)), M)) := by
  have m60 := R.m60
  show Wx _ _ 0 [(0, .ref (X.1 8)), (1, .int (nI i)), (2, .int ((5 : Int32)))] [] h _
  refine x_run 3 (pc' := 3) (lv' := [(0, .ref (X.1 8)), (1, .int (nI i)), (2, .int ((5 : Int32)))]) (st' := [.int (nI i), .ref (X.1 8), .ref (X.1 8)]) rfl ?_
  refine x_rd (v := .int (bI (true))) (k' := 56) (as := [.ref (X.1 8), .int (nI i)]) (rest := [.ref (X.1 8)]) (x_isV (np := 1) rfl rfl rfl R.c8 rfl) (k_isCt R hi) ?_
  refine x_if (c := ¬ bI (true) = 0) (t := 13) rfl rfl (fun c1 => ?_) (fun c1 => ?_)
  · replace c1 := bI_n0 c1
    refine x_run 3 (pc' := 16) (lv' := [(0, .ref (X.1 8)), (1, .int (nI i)), (2, .int ((5 : Int32)))]) (st' := [.long (0), .long (((5 : Int32)).toInt64), .ref (X.1 8)]) rfl ?_
    refine x_ldc2 (x := 9) rfl rfl ?_
    refine x_rd (v := .int (bI (true))) (k' := 55) (as := [.long (((5 : Int32)).toInt64), .long (0), .long (9)]) (rest := [.ref (X.1 8)]) (x_isS (np := 3) rfl rfl rfl rfl rfl) (k_inE (by decide)) ?_
    refine x_if (c := bI (true) = 0) (t := 29) rfl rfl (fun c2 => ?_) (fun c2 => ?_)
    · replace c2 := bI_0.mp c2
      cases c2
    · replace c2 := bI_n0 c2
      refine x_run 2 (pc' := 30) (lv' := [(0, .ref (X.1 8)), (1, .int (nI i)), (2, .int ((5 : Int32)))]) (st' := [.int (0), .ref (X.1 8)]) rfl ?_
      refine x_put rfl rfl R.c8 rfl ?_
      refine gen_h (A := Rep u v X P M ((0, z.2))) (R.mCode _) (fun h R => ?_)
      refine x_run 1 (pc' := 34) (lv' := [(0, .ref (X.1 8)), (1, .int (nI i)), (2, .int ((5 : Int32)))]) (st' := [.ref (X.1 8)]) rfl ?_
      refine x_get (v := .int (0)) rfl rfl R.c8 rfl ?_
      refine x_if (c := nI 0 ≤ nI 0) (t := 42) rfl rfl (fun c3 => ?_) (fun c3 => ?_)
      · replace c3 := (nI_leI (by omega) (by omega)).mp c3
        refine x_run 1 (pc' := 43) (lv' := [(0, .ref (X.1 8)), (1, .int (nI i)), (2, .int ((5 : Int32)))]) (st' := [.int ((5 : Int32))]) rfl ?_
        refine x_step (pc' := 129) (lv' := [(0, .ref (X.1 8)), (1, .int (nI i)), (2, .int ((5 : Int32)))]) (st' := []) (h' := h) rfl rfl ?_
        refine x_run 1 (pc' := 130) (lv' := [(0, .ref (X.1 8)), (1, .int (nI i)), (2, .int ((5 : Int32)))]) (st' := [.ref (X.1 8)]) rfl ?_
        refine x_get (v := .ref (X.1 13)) rfl rfl R.c8 rfl ?_
        refine x_run 1 (pc' := 134) (lv' := [(0, .ref (X.1 8)), (1, .int (nI i)), (2, .int ((5 : Int32)))]) (st' := [.int (nI i), .ref (X.1 13)]) rfl ?_
        refine x_lald (j := i) rfl R.c13 (mm_idx_nI (by omega) (by omega)) ?_
        exact x_ret (v := some (.long (pL M 3 i))) rfl rfl rfl ⟨rfl, _, fun _ => rfl, R⟩
      · replace c3 := mt (nI_leI (by omega) (by omega)).mpr c3
        omega
  · replace c1 := bI_0.mp (Classical.not_not.mp c1)
    cases c1
theorem k_told6 (R : Rep u v X P M z h) (hi : i < pn M) : Wx (d + 4) 90 0 (lv_args 0 [.ref (X.1 8), .int (nI i), .int ((6 : Int32))]) [] h (mQ u v X P z (0, some (.long (pL M 4 i)), M)) := by
  have m60 := R.m60
  show Wx _ _ 0 [(0, .ref (X.1 8)), (1, .int (nI i)), (2, .int ((6 : Int32)))] [] h _
  refine x_run 3 (pc' := 3) (lv' := [(0, .ref (X.1 8)), (1, .int (nI i)), (2, .int ((6 : Int32)))]) (st' := [.int (nI i), .ref (X.1 8), .ref (X.1 8)]) rfl ?_
  refine x_rd (v := .int (bI (true))) (k' := 56) (as := [.ref (X.1 8), .int (nI i)]) (rest := [.ref (X.1 8)]) (x_isV (np := 1) rfl rfl rfl R.c8 rfl) (k_isCt R hi) ?_
  refine x_if (c := ¬ bI (true) = 0) (t := 13) rfl rfl (fun c1 => ?_) (fun c1 => ?_)
  · replace c1 := bI_n0 c1
    refine x_run 3 (pc' := 16) (lv' := [(0, .ref (X.1 8)), (1, .int (nI i)), (2, .int ((6 : Int32)))]) (st' := [.long (0), .long (((6 : Int32)).toInt64), .ref (X.1 8)]) rfl ?_
    refine x_ldc2 (x := 9) rfl rfl ?_
    refine x_rd (v := .int (bI (true))) (k' := 55) (as := [.long (((6 : Int32)).toInt64), .long (0), .long (9)]) (rest := [.ref (X.1 8)]) (x_isS (np := 3) rfl rfl rfl rfl rfl) (k_inE (by decide)) ?_
    refine x_if (c := bI (true) = 0) (t := 29) rfl rfl (fun c2 => ?_) (fun c2 => ?_)
    · replace c2 := bI_0.mp c2
      cases c2
    · replace c2 := bI_n0 c2
      refine x_run 2 (pc' := 30) (lv' := [(0, .ref (X.1 8)), (1, .int (nI i)), (2, .int ((6 : Int32)))]) (st' := [.int (0), .ref (X.1 8)]) rfl ?_
      refine x_put rfl rfl R.c8 rfl ?_
      refine gen_h (A := Rep u v X P M ((0, z.2))) (R.mCode _) (fun h R => ?_)
      refine x_run 1 (pc' := 34) (lv' := [(0, .ref (X.1 8)), (1, .int (nI i)), (2, .int ((6 : Int32)))]) (st' := [.ref (X.1 8)]) rfl ?_
      refine x_get (v := .int (0)) rfl rfl R.c8 rfl ?_
      refine x_if (c := nI 0 ≤ nI 0) (t := 42) rfl rfl (fun c3 => ?_) (fun c3 => ?_)
      · replace c3 := (nI_leI (by omega) (by omega)).mp c3
        refine x_run 1 (pc' := 43) (lv' := [(0, .ref (X.1 8)), (1, .int (nI i)), (2, .int ((6 : Int32)))]) (st' := [.int ((6 : Int32))]) rfl ?_
        refine x_step (pc' := 136) (lv' := [(0, .ref (X.1 8)), (1, .int (nI i)), (2, .int ((6 : Int32)))]) (st' := []) (h' := h) rfl rfl ?_
        refine x_run 1 (pc' := 137) (lv' := [(0, .ref (X.1 8)), (1, .int (nI i)), (2, .int ((6 : Int32)))]) (st' := [.ref (X.1 8)]) rfl ?_
        refine x_get (v := .ref (X.1 14)) rfl rfl R.c8 rfl ?_
        refine x_run 1 (pc' := 141) (lv' := [(0, .ref (X.1 8)), (1, .int (nI i)), (2, .int ((6 : Int32)))]) (st' := [.int (nI i), .ref (X.1 14)]) rfl ?_
        refine x_lald (j := i) rfl R.c14 (mm_idx_nI (by omega) (by omega)) ?_
        exact x_ret (v := some (.long (pL M 4 i))) rfl rfl rfl ⟨rfl, _, fun _ => rfl, R⟩
      · replace c3 := mt (nI_leI (by omega) (by omega)).mpr c3
        omega
  · replace c1 := bI_0.mp (Classical.not_not.mp c1)
    cases c1
theorem k_told7 (R : Rep u v X P M z h) (hi : i < pn M) : Wx (d + 4) 90 0 (lv_args 0 [.ref (X.1 8), .int (nI i), .int ((7 : Int32))]) [] h (mQ u v X P z (0, some (.long (p_net M i)), M)) := by
  have m60 := R.m60
  show Wx _ _ 0 [(0, .ref (X.1 8)), (1, .int (nI i)), (2, .int ((7 : Int32)))] [] h _
  refine x_run 3 (pc' := 3) (lv' := [(0, .ref (X.1 8)), (1, .int (nI i)), (2, .int ((7 : Int32)))]) (st' := [.int (nI i), .ref (X.1 8), .ref (X.1 8)]) rfl ?_
  refine x_rd (v := .int (bI (true))) (k' := 56) (as := [.ref (X.1 8), .int (nI i)]) (rest := [.ref (X.1 8)]) (x_isV (np := 1) rfl rfl rfl R.c8 rfl) (k_isCt R hi) ?_
  refine x_if (c := ¬ bI (true) = 0) (t := 13) rfl rfl (fun c1 => ?_) (fun c1 => ?_)
  · replace c1 := bI_n0 c1
    refine x_run 3 (pc' := 16) (lv' := [(0, .ref (X.1 8)), (1, .int (nI i)), (2, .int ((7 : Int32)))]) (st' := [.long (0), .long (((7 : Int32)).toInt64), .ref (X.1 8)]) rfl ?_
    refine x_ldc2 (x := 9) rfl rfl ?_
    refine x_rd (v := .int (bI (true))) (k' := 55) (as := [.long (((7 : Int32)).toInt64), .long (0), .long (9)]) (rest := [.ref (X.1 8)]) (x_isS (np := 3) rfl rfl rfl rfl rfl) (k_inE (by decide)) ?_
    refine x_if (c := bI (true) = 0) (t := 29) rfl rfl (fun c2 => ?_) (fun c2 => ?_)
    · replace c2 := bI_0.mp c2
      cases c2
    · replace c2 := bI_n0 c2
      refine x_run 2 (pc' := 30) (lv' := [(0, .ref (X.1 8)), (1, .int (nI i)), (2, .int ((7 : Int32)))]) (st' := [.int (0), .ref (X.1 8)]) rfl ?_
      refine x_put rfl rfl R.c8 rfl ?_
      refine gen_h (A := Rep u v X P M ((0, z.2))) (R.mCode _) (fun h R => ?_)
      refine x_run 1 (pc' := 34) (lv' := [(0, .ref (X.1 8)), (1, .int (nI i)), (2, .int ((7 : Int32)))]) (st' := [.ref (X.1 8)]) rfl ?_
      refine x_get (v := .int (0)) rfl rfl R.c8 rfl ?_
      refine x_if (c := nI 0 ≤ nI 0) (t := 42) rfl rfl (fun c3 => ?_) (fun c3 => ?_)
      · replace c3 := (nI_leI (by omega) (by omega)).mp c3
        refine x_run 1 (pc' := 43) (lv' := [(0, .ref (X.1 8)), (1, .int (nI i)), (2, .int ((7 : Int32)))]) (st' := [.int ((7 : Int32))]) rfl ?_
        refine x_step (pc' := 143) (lv' := [(0, .ref (X.1 8)), (1, .int (nI i)), (2, .int ((7 : Int32)))]) (st' := []) (h' := h) rfl rfl ?_
        refine x_run 2 (pc' := 145) (lv' := [(0, .ref (X.1 8)), (1, .int (nI i)), (2, .int ((7 : Int32)))]) (st' := [.int (nI i), .ref (X.1 8)]) rfl ?_
        refine x_rd (v := .long (p_net M i)) (k' := 60) (as := [.ref (X.1 8), .int (nI i)]) (rest := []) (x_isV (np := 1) rfl rfl rfl R.c8 rfl) (k_net R hi) ?_
        exact x_ret (v := some (.long (p_net M i))) rfl rfl rfl ⟨rfl, _, fun _ => rfl, R⟩
      · replace c3 := mt (nI_leI (by omega) (by omega)).mpr c3
        omega
  · replace c1 := bI_0.mp (Classical.not_not.mp c1)
    cases c1
theorem k_told8 (R : Rep u v X P M z h) (hi : i < pn M) : Wx (d + 4) 90 0 (lv_args 0 [.ref (X.1 8), .int (nI i), .int ((8 : Int32))]) [] h (mQ u v X P z (0, some (.long (p_dueOf M i)), M)) := by
  have m60 := R.m60
  show Wx _ _ 0 [(0, .ref (X.1 8)), (1, .int (nI i)), (2, .int ((8 : Int32)))] [] h _
  refine x_run 3 (pc' := 3) (lv' := [(0, .ref (X.1 8)), (1, .int (nI i)), (2, .int ((8 : Int32)))]) (st' := [.int (nI i), .ref (X.1 8), .ref (X.1 8)]) rfl ?_
  refine x_rd (v := .int (bI (true))) (k' := 56) (as := [.ref (X.1 8), .int (nI i)]) (rest := [.ref (X.1 8)]) (x_isV (np := 1) rfl rfl rfl R.c8 rfl) (k_isCt R hi) ?_
  refine x_if (c := ¬ bI (true) = 0) (t := 13) rfl rfl (fun c1 => ?_) (fun c1 => ?_)
  · replace c1 := bI_n0 c1
    refine x_run 3 (pc' := 16) (lv' := [(0, .ref (X.1 8)), (1, .int (nI i)), (2, .int ((8 : Int32)))]) (st' := [.long (0), .long (((8 : Int32)).toInt64), .ref (X.1 8)]) rfl ?_
    refine x_ldc2 (x := 9) rfl rfl ?_
    refine x_rd (v := .int (bI (true))) (k' := 55) (as := [.long (((8 : Int32)).toInt64), .long (0), .long (9)]) (rest := [.ref (X.1 8)]) (x_isS (np := 3) rfl rfl rfl rfl rfl) (k_inE (by decide)) ?_
    refine x_if (c := bI (true) = 0) (t := 29) rfl rfl (fun c2 => ?_) (fun c2 => ?_)
    · replace c2 := bI_0.mp c2
      cases c2
    · replace c2 := bI_n0 c2
      refine x_run 2 (pc' := 30) (lv' := [(0, .ref (X.1 8)), (1, .int (nI i)), (2, .int ((8 : Int32)))]) (st' := [.int (0), .ref (X.1 8)]) rfl ?_
      refine x_put rfl rfl R.c8 rfl ?_
      refine gen_h (A := Rep u v X P M ((0, z.2))) (R.mCode _) (fun h R => ?_)
      refine x_run 1 (pc' := 34) (lv' := [(0, .ref (X.1 8)), (1, .int (nI i)), (2, .int ((8 : Int32)))]) (st' := [.ref (X.1 8)]) rfl ?_
      refine x_get (v := .int (0)) rfl rfl R.c8 rfl ?_
      refine x_if (c := nI 0 ≤ nI 0) (t := 42) rfl rfl (fun c3 => ?_) (fun c3 => ?_)
      · replace c3 := (nI_leI (by omega) (by omega)).mp c3
        refine x_run 1 (pc' := 43) (lv' := [(0, .ref (X.1 8)), (1, .int (nI i)), (2, .int ((8 : Int32)))]) (st' := [.int ((8 : Int32))]) rfl ?_
        refine x_step (pc' := 149) (lv' := [(0, .ref (X.1 8)), (1, .int (nI i)), (2, .int ((8 : Int32)))]) (st' := []) (h' := h) rfl rfl ?_
        refine x_run 2 (pc' := 151) (lv' := [(0, .ref (X.1 8)), (1, .int (nI i)), (2, .int ((8 : Int32)))]) (st' := [.int (nI i), .ref (X.1 8)]) rfl ?_
        refine x_rd (v := .long (p_dueOf M i)) (k' := 65) (as := [.ref (X.1 8), .int (nI i)]) (rest := []) (x_isV (np := 1) rfl rfl rfl R.c8 rfl) (k_dueOf R hi) ?_
        exact x_ret (v := some (.long (p_dueOf M i))) rfl rfl rfl ⟨rfl, _, fun _ => rfl, R⟩
      · replace c3 := mt (nI_leI (by omega) (by omega)).mpr c3
        omega
  · replace c1 := bI_0.mp (Classical.not_not.mp c1)
    cases c1
theorem k_told9 (R : Rep u v X P M z h) (hi : i < pn M) : Wx (d + 4) 90 0 (lv_args 0 [.ref (X.1 8), .int (nI i), .int ((9 : Int32))]) [] h (mQ u v X P z (0, some (.long (cond (p_openM M i) 1 0)), M)) := by
  have m60 := R.m60
  have hw : (9 : Int32).toInt < 0 ∨ 8 < (9 : Int32).toInt := by decide
  show Wx _ _ 0 [(0, .ref (X.1 8)), (1, .int (nI i)), (2, .int ((9 : Int32)))] [] h _
  refine x_run 3 (pc' := 3) (lv' := [(0, .ref (X.1 8)), (1, .int (nI i)), (2, .int ((9 : Int32)))]) (st' := [.int (nI i), .ref (X.1 8), .ref (X.1 8)]) rfl ?_
  refine x_rd (v := .int (bI (true))) (k' := 56) (as := [.ref (X.1 8), .int (nI i)]) (rest := [.ref (X.1 8)]) (x_isV (np := 1) rfl rfl rfl R.c8 rfl) (k_isCt R hi) ?_
  refine x_if (c := ¬ bI (true) = 0) (t := 13) rfl rfl (fun c1 => ?_) (fun c1 => ?_)
  · replace c1 := bI_n0 c1
    refine x_run 3 (pc' := 16) (lv' := [(0, .ref (X.1 8)), (1, .int (nI i)), (2, .int ((9 : Int32)))]) (st' := [.long (0), .long (((9 : Int32)).toInt64), .ref (X.1 8)]) rfl ?_
    refine x_ldc2 (x := 9) rfl rfl ?_
    refine x_rd (v := .int (bI (true))) (k' := 55) (as := [.long (((9 : Int32)).toInt64), .long (0), .long (9)]) (rest := [.ref (X.1 8)]) (x_isS (np := 3) rfl rfl rfl rfl rfl) (k_inE (by decide)) ?_
    refine x_if (c := bI (true) = 0) (t := 29) rfl rfl (fun c2 => ?_) (fun c2 => ?_)
    · replace c2 := bI_0.mp c2
      cases c2
    · replace c2 := bI_n0 c2
      refine x_run 2 (pc' := 30) (lv' := [(0, .ref (X.1 8)), (1, .int (nI i)), (2, .int ((9 : Int32)))]) (st' := [.int (0), .ref (X.1 8)]) rfl ?_
      refine x_put rfl rfl R.c8 rfl ?_
      refine gen_h (A := Rep u v X P M ((0, z.2))) (R.mCode _) (fun h R => ?_)
      refine x_run 1 (pc' := 34) (lv' := [(0, .ref (X.1 8)), (1, .int (nI i)), (2, .int ((9 : Int32)))]) (st' := [.ref (X.1 8)]) rfl ?_
      refine x_get (v := .int (0)) rfl rfl R.c8 rfl ?_
      refine x_if (c := nI 0 ≤ nI 0) (t := 42) rfl rfl (fun c3 => ?_) (fun c3 => ?_)
      · replace c3 := (nI_leI (by omega) (by omega)).mp c3
        refine x_run 1 (pc' := 43) (lv' := [(0, .ref (X.1 8)), (1, .int (nI i)), (2, .int ((9 : Int32)))]) (st' := [.int ((9 : Int32))]) rfl ?_
        refine x_swd (t := 155) rfl hw rfl ?_
        refine x_run 2 (pc' := 157) (lv' := [(0, .ref (X.1 8)), (1, .int (nI i)), (2, .int ((9 : Int32)))]) (st' := [.int (nI i), .ref (X.1 8)]) rfl ?_
        refine x_rd (v := .int (bI (p_openM M i))) (k' := 62) (as := [.ref (X.1 8), .int (nI i)]) (rest := []) (x_isV (np := 1) rfl rfl rfl R.c8 rfl) (k_open R hi) ?_
        refine x_if (c := bI (p_openM M i) = 0) (t := 167) rfl rfl (fun c4 => ?_) (fun c4 => ?_)
        · replace c4 := bI_0.mp c4
          refine x_run 1 (pc' := 168) (lv' := [(0, .ref (X.1 8)), (1, .int (nI i)), (2, .int ((9 : Int32)))]) (st' := [.long (0)]) rfl ?_
          rw [show p_openM M i = false from c4]
          exact x_ret (v := some (.long (0))) rfl rfl rfl ⟨rfl, _, fun _ => rfl, R⟩
        · replace c4 := bI_n0 c4
          refine x_run 2 (pc' := 168) (lv' := [(0, .ref (X.1 8)), (1, .int (nI i)), (2, .int ((9 : Int32)))]) (st' := [.long (1)]) rfl ?_
          rw [show p_openM M i = true from c4]
          exact x_ret (v := some (.long (1))) rfl rfl rfl ⟨rfl, _, fun _ => rfl, R⟩
      · replace c3 := mt (nI_leI (by omega) (by omega)).mpr c3
        omega
  · replace c1 := bI_0.mp (Classical.not_not.mp c1)
    cases c1
theorem k_toldW (R : Rep u v X P M z h) (hi : i < pn M) {w : Int32} (hw : w.toInt < 0 ∨ 9 < w.toInt) : Wx (d + 4) 90 0 (lv_args 0 [.ref (X.1 8), .int (nI i), .int (w)]) [] h (mQ u v X P z (2, (some (.long 0)), M)) := by
  show Wx _ _ 0 [(0, .ref (X.1 8)), (1, .int (nI i)), (2, .int (w))] [] h _
  refine x_run 3 (pc' := 3) (lv' := [(0, .ref (X.1 8)), (1, .int (nI i)), (2, .int (w))]) (st' := [.int (nI i), .ref (X.1 8), .ref (X.1 8)]) rfl ?_
  refine x_rd (v := .int (bI (true))) (k' := 56) (as := [.ref (X.1 8), .int (nI i)]) (rest := [.ref (X.1 8)]) (x_isV (np := 1) rfl rfl rfl R.c8 rfl) (k_isCt R hi) ?_
  refine x_if (c := ¬ bI (true) = 0) (t := 13) rfl rfl (fun c1 => ?_) (fun c1 => ?_)
  · replace c1 := bI_n0 c1
    refine x_run 3 (pc' := 16) (lv' := [(0, .ref (X.1 8)), (1, .int (nI i)), (2, .int (w))]) (st' := [.long (0), .long ((w).toInt64), .ref (X.1 8)]) rfl ?_
    refine x_ldc2 (x := 9) rfl rfl ?_
    refine x_rd (v := .int (bI (false))) (k' := 55) (as := [.long ((w).toInt64), .long (0), .long (9)]) (rest := [.ref (X.1 8)]) (x_isS (np := 3) rfl rfl rfl rfl rfl) (k_inE (what_f hw)) ?_
    refine x_if (c := bI (false) = 0) (t := 29) rfl rfl (fun c2 => ?_) (fun c2 => ?_)
    · replace c2 := bI_0.mp c2
      refine x_run 1 (pc' := 30) (lv' := [(0, .ref (X.1 8)), (1, .int (nI i)), (2, .int (w))]) (st' := [.int (2), .ref (X.1 8)]) rfl ?_
      refine x_put rfl rfl R.c8 rfl ?_
      refine gen_h (A := Rep u v X P M ((2, z.2))) (R.mCode _) (fun h R => ?_)
      refine x_run 1 (pc' := 34) (lv' := [(0, .ref (X.1 8)), (1, .int (nI i)), (2, .int (w))]) (st' := [.ref (X.1 8)]) rfl ?_
      refine x_get (v := .int (2)) rfl rfl R.c8 rfl ?_
      refine x_if (c := nI 2 ≤ nI 0) (t := 42) rfl rfl (fun c3 => ?_) (fun c3 => ?_)
      · replace c3 := (nI_leI (by omega) (by omega)).mp c3
        omega
      · replace c3 := mt (nI_leI (by omega) (by omega)).mpr c3
        refine x_run 1 (pc' := 41) (lv' := [(0, .ref (X.1 8)), (1, .int (nI i)), (2, .int (w))]) (st' := [.long (0)]) rfl ?_
        exact x_ret (v := some (.long (0))) rfl rfl rfl ⟨rfl, _, fun _ => rfl, R⟩
    · replace c2 := bI_n0 c2
      cases c2
  · replace c1 := bI_0.mp (Classical.not_not.mp c1)
    cases c1
theorem k_toldX (R : Rep u v X P M z h) {q : Int32} (hq : q < 0 ∨ nI (pn M) ≤ q) (w : Int32) : Wx (d + 4) 90 0 (lv_args 0 [.ref (X.1 8), .int (q), .int (w)]) [] h (mQ u v X P z (1, (some (.long 0)), M)) := by
  show Wx _ _ 0 [(0, .ref (X.1 8)), (1, .int (q)), (2, .int (w))] [] h _
  refine x_run 3 (pc' := 3) (lv' := [(0, .ref (X.1 8)), (1, .int (q)), (2, .int (w))]) (st' := [.int (q), .ref (X.1 8), .ref (X.1 8)]) rfl ?_
  refine x_rd (v := .int (bI (false))) (k' := 56) (as := [.ref (X.1 8), .int (q)]) (rest := [.ref (X.1 8)]) (x_isV (np := 1) rfl rfl rfl R.c8 rfl) (k_isCf R hq) ?_
  refine x_if (c := ¬ bI (false) = 0) (t := 13) rfl rfl (fun c1 => ?_) (fun c1 => ?_)
  · replace c1 := bI_n0 c1
    cases c1
  · replace c1 := bI_0.mp (Classical.not_not.mp c1)
    refine x_run 2 (pc' := 30) (lv' := [(0, .ref (X.1 8)), (1, .int (q)), (2, .int (w))]) (st' := [.int (1), .ref (X.1 8)]) rfl ?_
    refine x_put rfl rfl R.c8 rfl ?_
    refine gen_h (A := Rep u v X P M ((1, z.2))) (R.mCode _) (fun h R => ?_)
    refine x_run 1 (pc' := 34) (lv' := [(0, .ref (X.1 8)), (1, .int (q)), (2, .int (w))]) (st' := [.ref (X.1 8)]) rfl ?_
    refine x_get (v := .int (1)) rfl rfl R.c8 rfl ?_
    refine x_if (c := nI 1 ≤ nI 0) (t := 42) rfl rfl (fun c2 => ?_) (fun c2 => ?_)
    · replace c2 := (nI_leI (by omega) (by omega)).mp c2
      omega
    · replace c2 := mt (nI_leI (by omega) (by omega)).mpr c2
      refine x_run 1 (pc' := 41) (lv' := [(0, .ref (X.1 8)), (1, .int (q)), (2, .int (w))]) (st' := [.long (0)]) rfl ?_
      exact x_ret (v := some (.long (0))) rfl rfl rfl ⟨rfl, _, fun _ => rfl, R⟩
theorem k_percentage (R : Rep u v X P M z h) {r : Nat} (hr : r < 8) : Wx (d + 3) 91 0 (lv_args 0 [.ref (X.1 8), .int (nI r)]) [] h (mQ u v X P z (0, some (.int (nI (pN M 3 r))), M)) := by
  show Wx _ _ 0 [(0, .ref (X.1 8)), (1, .int (nI r))] [] h _
  refine x_run 2 (pc' := 2) (lv' := [(0, .ref (X.1 8)), (1, .int (nI r))]) (st' := [.int (nI r), .ref (X.1 8)]) rfl ?_
  refine x_rd (v := .int (bI (true))) (k' := 58) (as := [.int (nI r)]) (rest := [.ref (X.1 8)]) (x_isS (np := 1) rfl rfl rfl rfl rfl) (k_isRt hr) ?_
  refine x_if (c := bI (true) = 0) (t := 12) rfl rfl (fun c1 => ?_) (fun c1 => ?_)
  · replace c1 := bI_0.mp c1
    cases c1
  · replace c1 := bI_n0 c1
    refine x_run 2 (pc' := 13) (lv' := [(0, .ref (X.1 8)), (1, .int (nI r))]) (st' := [.int (0), .ref (X.1 8)]) rfl ?_
    refine x_put rfl rfl R.c8 rfl ?_
    refine gen_h (A := Rep u v X P M ((0, z.2))) (R.mCode _) (fun h R => ?_)
    refine x_run 1 (pc' := 17) (lv' := [(0, .ref (X.1 8)), (1, .int (nI r))]) (st' := [.ref (X.1 8)]) rfl ?_
    refine x_get (v := .int (0)) rfl rfl R.c8 rfl ?_
    refine x_if (c := nI 0 ≤ nI 0) (t := 27) rfl rfl (fun c2 => ?_) (fun c2 => ?_)
    · replace c2 := (nI_leI (by omega) (by omega)).mp c2
      refine x_run 1 (pc' := 28) (lv' := [(0, .ref (X.1 8)), (1, .int (nI r))]) (st' := [.ref (X.1 8)]) rfl ?_
      refine x_get (v := .ref (X.1 20)) rfl rfl R.c8 rfl ?_
      refine x_run 1 (pc' := 32) (lv' := [(0, .ref (X.1 8)), (1, .int (nI r))]) (st' := [.int (nI r), .ref (X.1 20)]) rfl ?_
      refine x_iald (j := r) rfl R.c20 (mm_idx_nI (by omega) (by omega)) ?_
      exact x_ret (v := some (.int (nI (pN M 3 r)))) rfl rfl rfl ⟨rfl, _, fun _ => rfl, R⟩
    · replace c2 := mt (nI_leI (by omega) (by omega)).mpr c2
      omega
theorem k_percentageX (R : Rep u v X P M z h) {q : Int32} (hq : q < 0 ∨ 8 ≤ q) : Wx (d + 3) 91 0 (lv_args 0 [.ref (X.1 8), .int (q)]) [] h (mQ u v X P z (1, (some (.int 0)), M)) := by
  show Wx _ _ 0 [(0, .ref (X.1 8)), (1, .int (q))] [] h _
  refine x_run 2 (pc' := 2) (lv' := [(0, .ref (X.1 8)), (1, .int (q))]) (st' := [.int (q), .ref (X.1 8)]) rfl ?_
  refine x_rd (v := .int (bI (false))) (k' := 58) (as := [.int (q)]) (rest := [.ref (X.1 8)]) (x_isS (np := 1) rfl rfl rfl rfl rfl) (k_isRf hq) ?_
  refine x_if (c := bI (false) = 0) (t := 12) rfl rfl (fun c1 => ?_) (fun c1 => ?_)
  · replace c1 := bI_0.mp c1
    refine x_run 1 (pc' := 13) (lv' := [(0, .ref (X.1 8)), (1, .int (q))]) (st' := [.int (1), .ref (X.1 8)]) rfl ?_
    refine x_put rfl rfl R.c8 rfl ?_
    refine gen_h (A := Rep u v X P M ((1, z.2))) (R.mCode _) (fun h R => ?_)
    refine x_run 1 (pc' := 17) (lv' := [(0, .ref (X.1 8)), (1, .int (q))]) (st' := [.ref (X.1 8)]) rfl ?_
    refine x_get (v := .int (1)) rfl rfl R.c8 rfl ?_
    refine x_if (c := nI 1 ≤ nI 0) (t := 27) rfl rfl (fun c2 => ?_) (fun c2 => ?_)
    · replace c2 := (nI_leI (by omega) (by omega)).mp c2
      omega
    · replace c2 := mt (nI_leI (by omega) (by omega)).mpr c2
      refine x_run 2 (pc' := 33) (lv' := [(0, .ref (X.1 8)), (1, .int (q))]) (st' := [.int (0)]) rfl ?_
      exact x_ret (v := some (.int (0))) rfl rfl rfl ⟨rfl, _, fun _ => rfl, R⟩
  · replace c1 := bI_n0 c1
    cases c1
theorem k_entries (R : Rep u v X P M z h) : Wx (d) 93 0 (lv_args 0 [.ref (X.1 8)]) [] h (mQ u v X P z (0, some (.int (nI (pj M))), M)) := by
  show Wx _ _ 0 [(0, .ref (X.1 8))] [] h _
  refine x_run 2 (pc' := 2) (lv' := [(0, .ref (X.1 8))]) (st' := [.int (0), .ref (X.1 8)]) rfl ?_
  refine x_put rfl rfl R.c8 rfl ?_
  refine gen_h (A := Rep u v X P M ((0, z.2))) (R.mCode _) (fun h R => ?_)
  refine x_run 1 (pc' := 6) (lv' := [(0, .ref (X.1 8))]) (st' := [.ref (X.1 8)]) rfl ?_
  refine x_get (v := .int (nI (pj M))) rfl rfl R.c8 rfl ?_
  exact x_ret (v := some (.int (nI (pj M)))) rfl rfl rfl ⟨rfl, _, fun _ => rfl, R⟩
theorem k_thrown (R : Rep u v X P M z h) : Wx (d) 54 0 (lv_args 0 [.ref (X.1 8)]) [] h (fun r0 => r0 = (.inl (some (.int (z.1))), h)) := by
  show Wx _ _ 0 [(0, .ref (X.1 8))] [] h _
  refine x_run 1 (pc' := 1) (lv' := [(0, .ref (X.1 8))]) (st' := [.ref (X.1 8)]) rfl ?_
  refine x_get (v := .int (z.1)) rfl rfl R.c8 rfl ?_
  exact x_ret (v := some (.int (z.1))) rfl rfl rfl rfl
theorem k_sumL {w : Int32} {Q : mm_O × mm_H → Prop} : ∀ (m : Nat) (i : Nat) (a b c : Int64), Rep u (v) X P M z h → i + m = pn M → (∀ h, Rep u v X P M z h → Wx (d) 92 65 [(8, .int (nI (i + m))), (6, .long (p_all M 3 m i c)), (4, .long (p_all M 2 m i b)), (2, .long (p_all M 4 m i a)), (0, .ref (X.1 8)), (1, .int w)] [] h Q) → Wx (d) 92 16 [(8, .int (nI i)), (6, .long (c)), (4, .long (b)), (2, .long (a)), (0, .ref (X.1 8)), (1, .int (w))] [] h Q := by
  intro m
  induction m with
  | zero =>
    intro i a b c R hm kk
    have m60 := R.m60
    refine x_run 2 (pc' := 19) (lv' := [(8, .int (nI i)), (6, .long (c)), (4, .long (b)), (2, .long (a)), (0, .ref (X.1 8)), (1, .int (w))]) (st' := [.ref (X.1 8), .int (nI i)]) rfl ?_
    refine x_get (v := .int (nI (pn M))) rfl rfl R.c8 rfl ?_
    refine x_if (c := nI (pn M) ≤ nI i) (t := 65) rfl rfl (fun c1 => ?_) (fun c1 => ?_)
    · replace c1 := (nI_leI (by omega) (by omega)).mp c1
      refine x_lv (a := [(8, .int (nI i)), (6, .long (c)), (4, .long (b)), (2, .long (a)), (0, .ref (X.1 8)), (1, .int (w))]) rfl rfl ⟨rfl, rfl, rfl, rfl, rfl, rfl, trivial⟩ ?_
      exact kk h R
    · replace c1 := mt (nI_leI (by omega) (by omega)).mpr c1
      omega
  | succ m ih =>
    intro i a b c R hm kk
    have m60 := R.m60
    have hi : i < pn M := by omega
    refine x_run 2 (pc' := 19) (lv' := [(8, .int (nI i)), (6, .long (c)), (4, .long (b)), (2, .long (a)), (0, .ref (X.1 8)), (1, .int (w))]) (st' := [.ref (X.1 8), .int (nI i)]) rfl ?_
    refine x_get (v := .int (nI (pn M))) rfl rfl R.c8 rfl ?_
    refine x_if (c := nI (pn M) ≤ nI i) (t := 65) rfl rfl (fun c1 => ?_) (fun c1 => ?_)
    · replace c1 := (nI_leI (by omega) (by omega)).mp c1
      omega
    · replace c1 := mt (nI_leI (by omega) (by omega)).mpr c1
      refine x_run 2 (pc' := 27) (lv' := [(8, .int (nI i)), (6, .long (c)), (4, .long (b)), (2, .long (a)), (0, .ref (X.1 8)), (1, .int (w))]) (st' := [.ref (X.1 8), .long (a)]) rfl ?_
      refine x_get (v := .ref (X.1 14)) rfl rfl R.c8 rfl ?_
      refine x_run 1 (pc' := 32) (lv' := [(8, .int (nI i)), (6, .long (c)), (4, .long (b)), (2, .long (a)), (0, .ref (X.1 8)), (1, .int (w))]) (st' := [.int (nI i), .ref (X.1 14), .long (a)]) rfl ?_
      refine x_lald (j := i) rfl R.c14 (mm_idx_nI (by omega) (by omega)) ?_
      refine x_run 4 (pc' := 38) (lv' := [(2, .long (a + (pL M 4 i))), (8, .int (nI i)), (6, .long (c)), (4, .long (b)), (0, .ref (X.1 8)), (1, .int (w))]) (st' := [.ref (X.1 8), .long (b)]) rfl ?_
      refine x_get (v := .ref (X.1 12)) rfl rfl R.c8 rfl ?_
      refine x_run 1 (pc' := 43) (lv' := [(2, .long (a + (pL M 4 i))), (8, .int (nI i)), (6, .long (c)), (4, .long (b)), (0, .ref (X.1 8)), (1, .int (w))]) (st' := [.int (nI i), .ref (X.1 12), .long (b)]) rfl ?_
      refine x_lald (j := i) rfl R.c12 (mm_idx_nI (by omega) (by omega)) ?_
      refine x_run 4 (pc' := 50) (lv' := [(4, .long (b + (pL M 2 i))), (2, .long (a + (pL M 4 i))), (8, .int (nI i)), (6, .long (c)), (0, .ref (X.1 8)), (1, .int (w))]) (st' := [.ref (X.1 8), .long (c)]) rfl ?_
      refine x_get (v := .ref (X.1 13)) rfl rfl R.c8 rfl ?_
      refine x_run 1 (pc' := 55) (lv' := [(4, .long (b + (pL M 2 i))), (2, .long (a + (pL M 4 i))), (8, .int (nI i)), (6, .long (c)), (0, .ref (X.1 8)), (1, .int (w))]) (st' := [.int (nI i), .ref (X.1 13), .long (c)]) rfl ?_
      refine x_lald (j := i) rfl R.c13 (mm_idx_nI (by omega) (by omega)) ?_
      refine x_run 3 (pc' := 62) (lv' := [(8, .int (nI i + 1)), (6, .long (c + (pL M 3 i))), (4, .long (b + (pL M 2 i))), (2, .long (a + (pL M 4 i))), (0, .ref (X.1 8)), (1, .int (w))]) (st' := []) rfl ?_
      rw [nI_1]
      refine x_run 1 (pc' := 16) (lv' := [(8, .int (nI (i + 1))), (6, .long (c + (pL M 3 i))), (4, .long (b + (pL M 2 i))), (2, .long (a + (pL M 4 i))), (0, .ref (X.1 8)), (1, .int (w))]) (st' := []) rfl ?_
      refine x_lv (a := [(8, .int (nI (i + 1))), (6, .long (c + (pL M 3 i))), (4, .long (b + (pL M 2 i))), (2, .long (a + (pL M 4 i))), (0, .ref (X.1 8)), (1, .int (w))]) rfl rfl ⟨rfl, rfl, rfl, rfl, rfl, rfl, trivial⟩ ?_
      exact ih (i + 1) _ _ _ R (by omega) (fun h R => by rw [show i + 1 + m = i + (m + 1) by omega]; exact kk h R)
theorem k_sum0 (R : Rep u v X P M z h) : Wx (d + 1) 92 0 (lv_args 0 [.ref (X.1 8), .int ((0 : Int32))]) [] h (mQ u v X P z (0, some (.long (pL M 7 0)), M)) := by
  show Wx _ _ 0 [(0, .ref (X.1 8)), (1, .int ((0 : Int32)))] [] h _
  refine x_run 2 (pc' := 2) (lv' := [(0, .ref (X.1 8)), (1, .int ((0 : Int32)))]) (st' := [.int (0), .ref (X.1 8)]) rfl ?_
  refine x_put rfl rfl R.c8 rfl ?_
  refine gen_h (A := Rep u v X P M ((0, z.2))) (R.mCode _) (fun h R => ?_)
  refine x_run 8 (pc' := 16) (lv' := [(8, .int (0)), (6, .long (0)), (4, .long (0)), (2, .long (0)), (0, .ref (X.1 8)), (1, .int ((0 : Int32)))]) (st' := []) rfl ?_
  refine x_lv (a := [(8, .int (0)), (6, .long (0)), (4, .long (0)), (2, .long (0)), (0, .ref (X.1 8)), (1, .int ((0 : Int32)))]) rfl rfl ⟨rfl, rfl, rfl, rfl, rfl, rfl, trivial⟩ ?_
  refine k_sumL (v := v) (pn M) 0 0 0 0 R (by omega) (fun h R => ?_)
  refine x_run 1 (pc' := 66) (lv' := [(8, .int (nI (0 + pn M))), (6, .long (p_all M 3 (pn M) 0 0)), (4, .long (p_all M 2 (pn M) 0 0)), (2, .long (p_all M 4 (pn M) 0 0)), (0, .ref (X.1 8)), (1, .int ((0 : Int32)))]) (st' := [.int ((0 : Int32))]) rfl ?_
  refine x_step (pc' := 104) (lv' := [(8, .int (nI (0 + pn M))), (6, .long (p_all M 3 (pn M) 0 0)), (4, .long (p_all M 2 (pn M) 0 0)), (2, .long (p_all M 4 (pn M) 0 0)), (0, .ref (X.1 8)), (1, .int ((0 : Int32)))]) (st' := []) (h' := h) rfl rfl ?_
  refine x_run 1 (pc' := 105) (lv' := [(8, .int (nI (0 + pn M))), (6, .long (p_all M 3 (pn M) 0 0)), (4, .long (p_all M 2 (pn M) 0 0)), (2, .long (p_all M 4 (pn M) 0 0)), (0, .ref (X.1 8)), (1, .int ((0 : Int32)))]) (st' := [.ref (X.1 8)]) rfl ?_
  refine x_get (v := .long (pL M 7 0)) rfl rfl R.c8 rfl ?_
  exact x_ret (v := some (.long (pL M 7 0))) rfl rfl rfl ⟨rfl, _, fun _ => rfl, R⟩
theorem k_sum1 (R : Rep u v X P M z h) : Wx (d + 1) 92 0 (lv_args 0 [.ref (X.1 8), .int ((1 : Int32))]) [] h (mQ u v X P z (0, some (.long (p_all M 4 (pn M) 0 0)), M)) := by
  show Wx _ _ 0 [(0, .ref (X.1 8)), (1, .int ((1 : Int32)))] [] h _
  refine x_run 2 (pc' := 2) (lv' := [(0, .ref (X.1 8)), (1, .int ((1 : Int32)))]) (st' := [.int (0), .ref (X.1 8)]) rfl ?_
  refine x_put rfl rfl R.c8 rfl ?_
  refine gen_h (A := Rep u v X P M ((0, z.2))) (R.mCode _) (fun h R => ?_)
  refine x_run 8 (pc' := 16) (lv' := [(8, .int (0)), (6, .long (0)), (4, .long (0)), (2, .long (0)), (0, .ref (X.1 8)), (1, .int ((1 : Int32)))]) (st' := []) rfl ?_
  refine x_lv (a := [(8, .int (0)), (6, .long (0)), (4, .long (0)), (2, .long (0)), (0, .ref (X.1 8)), (1, .int ((1 : Int32)))]) rfl rfl ⟨rfl, rfl, rfl, rfl, rfl, rfl, trivial⟩ ?_
  refine k_sumL (v := v) (pn M) 0 0 0 0 R (by omega) (fun h R => ?_)
  refine x_run 1 (pc' := 66) (lv' := [(8, .int (nI (0 + pn M))), (6, .long (p_all M 3 (pn M) 0 0)), (4, .long (p_all M 2 (pn M) 0 0)), (2, .long (p_all M 4 (pn M) 0 0)), (0, .ref (X.1 8)), (1, .int ((1 : Int32)))]) (st' := [.int ((1 : Int32))]) rfl ?_
  refine x_step (pc' := 109) (lv' := [(8, .int (nI (0 + pn M))), (6, .long (p_all M 3 (pn M) 0 0)), (4, .long (p_all M 2 (pn M) 0 0)), (2, .long (p_all M 4 (pn M) 0 0)), (0, .ref (X.1 8)), (1, .int ((1 : Int32)))]) (st' := []) (h' := h) rfl rfl ?_
  refine x_run 1 (pc' := 110) (lv' := [(8, .int (nI (0 + pn M))), (6, .long (p_all M 3 (pn M) 0 0)), (4, .long (p_all M 2 (pn M) 0 0)), (2, .long (p_all M 4 (pn M) 0 0)), (0, .ref (X.1 8)), (1, .int ((1 : Int32)))]) (st' := [.long (p_all M 4 (pn M) 0 0)]) rfl ?_
  exact x_ret (v := some (.long (p_all M 4 (pn M) 0 0))) rfl rfl rfl ⟨rfl, _, fun _ => rfl, R⟩
theorem k_sum2 (R : Rep u v X P M z h) : Wx (d + 1) 92 0 (lv_args 0 [.ref (X.1 8), .int ((2 : Int32))]) [] h (mQ u v X P z (0, some (.long (pL M 7 1)), M)) := by
  show Wx _ _ 0 [(0, .ref (X.1 8)), (1, .int ((2 : Int32)))] [] h _
  refine x_run 2 (pc' := 2) (lv' := [(0, .ref (X.1 8)), (1, .int ((2 : Int32)))]) (st' := [.int (0), .ref (X.1 8)]) rfl ?_
  refine x_put rfl rfl R.c8 rfl ?_
  refine gen_h (A := Rep u v X P M ((0, z.2))) (R.mCode _) (fun h R => ?_)
  refine x_run 8 (pc' := 16) (lv' := [(8, .int (0)), (6, .long (0)), (4, .long (0)), (2, .long (0)), (0, .ref (X.1 8)), (1, .int ((2 : Int32)))]) (st' := []) rfl ?_
  refine x_lv (a := [(8, .int (0)), (6, .long (0)), (4, .long (0)), (2, .long (0)), (0, .ref (X.1 8)), (1, .int ((2 : Int32)))]) rfl rfl ⟨rfl, rfl, rfl, rfl, rfl, rfl, trivial⟩ ?_
  refine k_sumL (v := v) (pn M) 0 0 0 0 R (by omega) (fun h R => ?_)
  refine x_run 1 (pc' := 66) (lv' := [(8, .int (nI (0 + pn M))), (6, .long (p_all M 3 (pn M) 0 0)), (4, .long (p_all M 2 (pn M) 0 0)), (2, .long (p_all M 4 (pn M) 0 0)), (0, .ref (X.1 8)), (1, .int ((2 : Int32)))]) (st' := [.int ((2 : Int32))]) rfl ?_
  refine x_step (pc' := 111) (lv' := [(8, .int (nI (0 + pn M))), (6, .long (p_all M 3 (pn M) 0 0)), (4, .long (p_all M 2 (pn M) 0 0)), (2, .long (p_all M 4 (pn M) 0 0)), (0, .ref (X.1 8)), (1, .int ((2 : Int32)))]) (st' := []) (h' := h) rfl rfl ?_
  refine x_run 1 (pc' := 112) (lv' := [(8, .int (nI (0 + pn M))), (6, .long (p_all M 3 (pn M) 0 0)), (4, .long (p_all M 2 (pn M) 0 0)), (2, .long (p_all M 4 (pn M) 0 0)), (0, .ref (X.1 8)), (1, .int ((2 : Int32)))]) (st' := [.ref (X.1 8)]) rfl ?_
  refine x_get (v := .long (pL M 7 1)) rfl rfl R.c8 rfl ?_
  exact x_ret (v := some (.long (pL M 7 1))) rfl rfl rfl ⟨rfl, _, fun _ => rfl, R⟩
theorem k_sum3 (R : Rep u v X P M z h) : Wx (d + 1) 92 0 (lv_args 0 [.ref (X.1 8), .int ((3 : Int32))]) [] h (mQ u v X P z (0, some (.long (pL M 7 2)), M)) := by
  show Wx _ _ 0 [(0, .ref (X.1 8)), (1, .int ((3 : Int32)))] [] h _
  refine x_run 2 (pc' := 2) (lv' := [(0, .ref (X.1 8)), (1, .int ((3 : Int32)))]) (st' := [.int (0), .ref (X.1 8)]) rfl ?_
  refine x_put rfl rfl R.c8 rfl ?_
  refine gen_h (A := Rep u v X P M ((0, z.2))) (R.mCode _) (fun h R => ?_)
  refine x_run 8 (pc' := 16) (lv' := [(8, .int (0)), (6, .long (0)), (4, .long (0)), (2, .long (0)), (0, .ref (X.1 8)), (1, .int ((3 : Int32)))]) (st' := []) rfl ?_
  refine x_lv (a := [(8, .int (0)), (6, .long (0)), (4, .long (0)), (2, .long (0)), (0, .ref (X.1 8)), (1, .int ((3 : Int32)))]) rfl rfl ⟨rfl, rfl, rfl, rfl, rfl, rfl, trivial⟩ ?_
  refine k_sumL (v := v) (pn M) 0 0 0 0 R (by omega) (fun h R => ?_)
  refine x_run 1 (pc' := 66) (lv' := [(8, .int (nI (0 + pn M))), (6, .long (p_all M 3 (pn M) 0 0)), (4, .long (p_all M 2 (pn M) 0 0)), (2, .long (p_all M 4 (pn M) 0 0)), (0, .ref (X.1 8)), (1, .int ((3 : Int32)))]) (st' := [.int ((3 : Int32))]) rfl ?_
  refine x_step (pc' := 116) (lv' := [(8, .int (nI (0 + pn M))), (6, .long (p_all M 3 (pn M) 0 0)), (4, .long (p_all M 2 (pn M) 0 0)), (2, .long (p_all M 4 (pn M) 0 0)), (0, .ref (X.1 8)), (1, .int ((3 : Int32)))]) (st' := []) (h' := h) rfl rfl ?_
  refine x_run 1 (pc' := 117) (lv' := [(8, .int (nI (0 + pn M))), (6, .long (p_all M 3 (pn M) 0 0)), (4, .long (p_all M 2 (pn M) 0 0)), (2, .long (p_all M 4 (pn M) 0 0)), (0, .ref (X.1 8)), (1, .int ((3 : Int32)))]) (st' := [.ref (X.1 8)]) rfl ?_
  refine x_get (v := .long (pL M 7 2)) rfl rfl R.c8 rfl ?_
  exact x_ret (v := some (.long (pL M 7 2))) rfl rfl rfl ⟨rfl, _, fun _ => rfl, R⟩
theorem k_sum4 (R : Rep u v X P M z h) : Wx (d + 1) 92 0 (lv_args 0 [.ref (X.1 8), .int ((4 : Int32))]) [] h (mQ u v X P z (0, some (.long (p_all M 2 (pn M) 0 0)), M)) := by
  show Wx _ _ 0 [(0, .ref (X.1 8)), (1, .int ((4 : Int32)))] [] h _
  refine x_run 2 (pc' := 2) (lv' := [(0, .ref (X.1 8)), (1, .int ((4 : Int32)))]) (st' := [.int (0), .ref (X.1 8)]) rfl ?_
  refine x_put rfl rfl R.c8 rfl ?_
  refine gen_h (A := Rep u v X P M ((0, z.2))) (R.mCode _) (fun h R => ?_)
  refine x_run 8 (pc' := 16) (lv' := [(8, .int (0)), (6, .long (0)), (4, .long (0)), (2, .long (0)), (0, .ref (X.1 8)), (1, .int ((4 : Int32)))]) (st' := []) rfl ?_
  refine x_lv (a := [(8, .int (0)), (6, .long (0)), (4, .long (0)), (2, .long (0)), (0, .ref (X.1 8)), (1, .int ((4 : Int32)))]) rfl rfl ⟨rfl, rfl, rfl, rfl, rfl, rfl, trivial⟩ ?_
  refine k_sumL (v := v) (pn M) 0 0 0 0 R (by omega) (fun h R => ?_)
  refine x_run 1 (pc' := 66) (lv' := [(8, .int (nI (0 + pn M))), (6, .long (p_all M 3 (pn M) 0 0)), (4, .long (p_all M 2 (pn M) 0 0)), (2, .long (p_all M 4 (pn M) 0 0)), (0, .ref (X.1 8)), (1, .int ((4 : Int32)))]) (st' := [.int ((4 : Int32))]) rfl ?_
  refine x_step (pc' := 121) (lv' := [(8, .int (nI (0 + pn M))), (6, .long (p_all M 3 (pn M) 0 0)), (4, .long (p_all M 2 (pn M) 0 0)), (2, .long (p_all M 4 (pn M) 0 0)), (0, .ref (X.1 8)), (1, .int ((4 : Int32)))]) (st' := []) (h' := h) rfl rfl ?_
  refine x_run 1 (pc' := 123) (lv' := [(8, .int (nI (0 + pn M))), (6, .long (p_all M 3 (pn M) 0 0)), (4, .long (p_all M 2 (pn M) 0 0)), (2, .long (p_all M 4 (pn M) 0 0)), (0, .ref (X.1 8)), (1, .int ((4 : Int32)))]) (st' := [.long (p_all M 2 (pn M) 0 0)]) rfl ?_
  exact x_ret (v := some (.long (p_all M 2 (pn M) 0 0))) rfl rfl rfl ⟨rfl, _, fun _ => rfl, R⟩
theorem k_sum5 (R : Rep u v X P M z h) : Wx (d + 1) 92 0 (lv_args 0 [.ref (X.1 8), .int ((5 : Int32))]) [] h (mQ u v X P z (0, some (.long (p_all M 3 (pn M) 0 0)), M)) := by
  show Wx _ _ 0 [(0, .ref (X.1 8)), (1, .int ((5 : Int32)))] [] h _
  refine x_run 2 (pc' := 2) (lv' := [(0, .ref (X.1 8)), (1, .int ((5 : Int32)))]) (st' := [.int (0), .ref (X.1 8)]) rfl ?_
  refine x_put rfl rfl R.c8 rfl ?_
  refine gen_h (A := Rep u v X P M ((0, z.2))) (R.mCode _) (fun h R => ?_)
  refine x_run 8 (pc' := 16) (lv' := [(8, .int (0)), (6, .long (0)), (4, .long (0)), (2, .long (0)), (0, .ref (X.1 8)), (1, .int ((5 : Int32)))]) (st' := []) rfl ?_
  refine x_lv (a := [(8, .int (0)), (6, .long (0)), (4, .long (0)), (2, .long (0)), (0, .ref (X.1 8)), (1, .int ((5 : Int32)))]) rfl rfl ⟨rfl, rfl, rfl, rfl, rfl, rfl, trivial⟩ ?_
  refine k_sumL (v := v) (pn M) 0 0 0 0 R (by omega) (fun h R => ?_)
  refine x_run 1 (pc' := 66) (lv' := [(8, .int (nI (0 + pn M))), (6, .long (p_all M 3 (pn M) 0 0)), (4, .long (p_all M 2 (pn M) 0 0)), (2, .long (p_all M 4 (pn M) 0 0)), (0, .ref (X.1 8)), (1, .int ((5 : Int32)))]) (st' := [.int ((5 : Int32))]) rfl ?_
  refine x_step (pc' := 124) (lv' := [(8, .int (nI (0 + pn M))), (6, .long (p_all M 3 (pn M) 0 0)), (4, .long (p_all M 2 (pn M) 0 0)), (2, .long (p_all M 4 (pn M) 0 0)), (0, .ref (X.1 8)), (1, .int ((5 : Int32)))]) (st' := []) (h' := h) rfl rfl ?_
  refine x_run 1 (pc' := 126) (lv' := [(8, .int (nI (0 + pn M))), (6, .long (p_all M 3 (pn M) 0 0)), (4, .long (p_all M 2 (pn M) 0 0)), (2, .long (p_all M 4 (pn M) 0 0)), (0, .ref (X.1 8)), (1, .int ((5 : Int32)))]) (st' := [.long (p_all M 3 (pn M) 0 0)]) rfl ?_
  exact x_ret (v := some (.long (p_all M 3 (pn M) 0 0))) rfl rfl rfl ⟨rfl, _, fun _ => rfl, R⟩
theorem k_sumX (R : Rep u v X P M z h) {w : Int32} (hw : w.toInt < 0 ∨ 5 < w.toInt) : Wx (d + 1) 92 0 (lv_args 0 [.ref (X.1 8), .int (w)]) [] h (mQ u v X P z (0, some (.long (-1)), M)) := by
  show Wx _ _ 0 [(0, .ref (X.1 8)), (1, .int (w))] [] h _
  refine x_run 2 (pc' := 2) (lv' := [(0, .ref (X.1 8)), (1, .int (w))]) (st' := [.int (0), .ref (X.1 8)]) rfl ?_
  refine x_put rfl rfl R.c8 rfl ?_
  refine gen_h (A := Rep u v X P M ((0, z.2))) (R.mCode _) (fun h R => ?_)
  refine x_run 8 (pc' := 16) (lv' := [(8, .int (0)), (6, .long (0)), (4, .long (0)), (2, .long (0)), (0, .ref (X.1 8)), (1, .int (w))]) (st' := []) rfl ?_
  refine x_lv (a := [(8, .int (0)), (6, .long (0)), (4, .long (0)), (2, .long (0)), (0, .ref (X.1 8)), (1, .int (w))]) rfl rfl ⟨rfl, rfl, rfl, rfl, rfl, rfl, trivial⟩ ?_
  refine k_sumL (v := v) (pn M) 0 0 0 0 R (by omega) (fun h R => ?_)
  refine x_run 1 (pc' := 66) (lv' := [(8, .int (nI (0 + pn M))), (6, .long (p_all M 3 (pn M) 0 0)), (4, .long (p_all M 2 (pn M) 0 0)), (2, .long (p_all M 4 (pn M) 0 0)), (0, .ref (X.1 8)), (1, .int (w))]) (st' := [.int (w)]) rfl ?_
  refine x_swd (t := 127) rfl hw rfl ?_
  refine x_ldc2 (x := -1) rfl rfl ?_
  exact x_ret (v := some (.long (-1))) rfl rfl rfl ⟨rfl, _, fun _ => rfl, R⟩
theorem k_entry0 (R : Rep u v X P M z h) {e : Nat} (he : e < 3000) (hk : p_keeps M (nI e) = true) : Wx (d + 2) 94 0 (lv_args 0 [.ref (X.1 8), .int (nI e), .int ((0 : Int32))]) [] h (mQ u v X P z (0, some (.long ((pI M 2 e).toInt64)), M)) := by
  have jb := R.wM.2.2.1
  have he2 := keeps_t hk he (by omega)
  show Wx _ _ 0 [(0, .ref (X.1 8)), (1, .int (nI e)), (2, .int ((0 : Int32)))] [] h _
  refine x_run 5 (pc' := 5) (lv' := [(0, .ref (X.1 8)), (1, .int (nI e)), (2, .int ((0 : Int32)))]) (st' := [.ref (X.1 8), .long (0), .long ((nI e).toInt64), .ref (X.1 8)]) rfl ?_
  refine x_get (v := .int (nI (pj M))) rfl rfl R.c8 rfl ?_
  refine x_run 1 (pc' := 11) (lv' := [(0, .ref (X.1 8)), (1, .int (nI e)), (2, .int ((0 : Int32)))]) (st' := [.int (3000), .int (nI (pj M)), .long (0), .long ((nI e).toInt64), .ref (X.1 8)]) rfl ?_
  refine x_if (c := nI 3000 ≤ nI (pj M)) (t := 21) rfl rfl (fun c1 => ?_) (fun c1 => ?_)
  · replace c1 := (nI_leI (by omega) (by omega)).mp c1
    refine x_run 4 (pc' := 27) (lv' := [(0, .ref (X.1 8)), (1, .int (nI e)), (2, .int ((0 : Int32)))]) (st' := [.long ((3000 - 1 : Int32).toInt64), .long (0), .long ((nI e).toInt64), .ref (X.1 8)]) rfl ?_
    refine x_rd (v := .int (bI (true))) (k' := 55) (as := [.long ((nI e).toInt64), .long (0), .long ((3000 - 1 : Int32).toInt64)]) (rest := [.ref (X.1 8)]) (x_isS (np := 3) rfl rfl rfl rfl rfl) (k_inE (m_is_t (n := 3000) he (by omega))) ?_
    refine x_if (c := ¬ bI (true) = 0) (t := 37) rfl rfl (fun c2 => ?_) (fun c2 => ?_)
    · replace c2 := bI_n0 c2
      refine x_run 3 (pc' := 40) (lv' := [(0, .ref (X.1 8)), (1, .int (nI e)), (2, .int ((0 : Int32)))]) (st' := [.long (0), .long (((0 : Int32)).toInt64), .ref (X.1 8)]) rfl ?_
      refine x_ldc2 (x := 2) rfl rfl ?_
      refine x_rd (v := .int (bI (true))) (k' := 55) (as := [.long (((0 : Int32)).toInt64), .long (0), .long (2)]) (rest := [.ref (X.1 8)]) (x_isS (np := 3) rfl rfl rfl rfl rfl) (k_inE (by decide)) ?_
      refine x_if (c := bI (true) = 0) (t := 53) rfl rfl (fun c3 => ?_) (fun c3 => ?_)
      · replace c3 := bI_0.mp c3
        cases c3
      · replace c3 := bI_n0 c3
        refine x_run 2 (pc' := 54) (lv' := [(0, .ref (X.1 8)), (1, .int (nI e)), (2, .int ((0 : Int32)))]) (st' := [.int (0), .ref (X.1 8)]) rfl ?_
        refine x_put rfl rfl R.c8 rfl ?_
        refine gen_h (A := Rep u v X P M ((0, z.2))) (R.mCode _) (fun h R => ?_)
        refine x_run 1 (pc' := 58) (lv' := [(0, .ref (X.1 8)), (1, .int (nI e)), (2, .int ((0 : Int32)))]) (st' := [.ref (X.1 8)]) rfl ?_
        refine x_get (v := .int (0)) rfl rfl R.c8 rfl ?_
        refine x_if (c := nI 0 ≤ nI 0) (t := 66) rfl rfl (fun c4 => ?_) (fun c4 => ?_)
        · replace c4 := (nI_leI (by omega) (by omega)).mp c4
          refine x_run 1 (pc' := 67) (lv' := [(0, .ref (X.1 8)), (1, .int (nI e)), (2, .int ((0 : Int32)))]) (st' := [.int ((0 : Int32))]) rfl ?_
          refine x_if (c := ¬ nI 0 = nI 0) (t := 80) rfl rfl (fun c5 => ?_) (fun c5 => ?_)
          · replace c5 := mt (nI_eq (by omega) (by omega)).mpr c5
            omega
          · replace c5 := (nI_eq (by omega) (by omega)).mp (Classical.not_not.mp c5)
            refine x_run 1 (pc' := 71) (lv' := [(0, .ref (X.1 8)), (1, .int (nI e)), (2, .int ((0 : Int32)))]) (st' := [.ref (X.1 8)]) rfl ?_
            refine x_get (v := .ref (X.1 21)) rfl rfl R.c8 rfl ?_
            refine x_run 1 (pc' := 75) (lv' := [(0, .ref (X.1 8)), (1, .int (nI e)), (2, .int ((0 : Int32)))]) (st' := [.int (nI e), .ref (X.1 21)]) rfl ?_
            refine x_iald (j := e) rfl R.c21 (mm_idx_nI (by omega) (by omega)) ?_
            refine x_run 2 (pc' := 101) (lv' := [(0, .ref (X.1 8)), (1, .int (nI e)), (2, .int ((0 : Int32)))]) (st' := [.long ((pI M 2 e).toInt64)]) rfl ?_
            exact x_ret (v := some (.long ((pI M 2 e).toInt64))) rfl rfl rfl ⟨rfl, _, fun _ => rfl, R⟩
        · replace c4 := mt (nI_leI (by omega) (by omega)).mpr c4
          omega
    · replace c2 := bI_0.mp (Classical.not_not.mp c2)
      cases c2
  · replace c1 := mt (nI_leI (by omega) (by omega)).mpr c1
    refine x_run 1 (pc' := 15) (lv' := [(0, .ref (X.1 8)), (1, .int (nI e)), (2, .int ((0 : Int32)))]) (st' := [.ref (X.1 8), .long (0), .long ((nI e).toInt64), .ref (X.1 8)]) rfl ?_
    refine x_get (v := .int (nI (pj M))) rfl rfl R.c8 rfl ?_
    refine x_run 4 (pc' := 27) (lv' := [(0, .ref (X.1 8)), (1, .int (nI e)), (2, .int ((0 : Int32)))]) (st' := [.long (((nI (pj M)) - 1).toInt64), .long (0), .long ((nI e).toInt64), .ref (X.1 8)]) rfl ?_
    refine x_rd (v := .int (bI (true))) (k' := 55) (as := [.long ((nI e).toInt64), .long (0), .long (((nI (pj M)) - 1).toInt64)]) (rest := [.ref (X.1 8)]) (x_isS (np := 3) rfl rfl rfl rfl rfl) (k_inE (m_is_t he2 (by omega))) ?_
    refine x_if (c := ¬ bI (true) = 0) (t := 37) rfl rfl (fun c6 => ?_) (fun c6 => ?_)
    · replace c6 := bI_n0 c6
      refine x_run 3 (pc' := 40) (lv' := [(0, .ref (X.1 8)), (1, .int (nI e)), (2, .int ((0 : Int32)))]) (st' := [.long (0), .long (((0 : Int32)).toInt64), .ref (X.1 8)]) rfl ?_
      refine x_ldc2 (x := 2) rfl rfl ?_
      refine x_rd (v := .int (bI (true))) (k' := 55) (as := [.long (((0 : Int32)).toInt64), .long (0), .long (2)]) (rest := [.ref (X.1 8)]) (x_isS (np := 3) rfl rfl rfl rfl rfl) (k_inE (by decide)) ?_
      refine x_if (c := bI (true) = 0) (t := 53) rfl rfl (fun c7 => ?_) (fun c7 => ?_)
      · replace c7 := bI_0.mp c7
        cases c7
      · replace c7 := bI_n0 c7
        refine x_run 2 (pc' := 54) (lv' := [(0, .ref (X.1 8)), (1, .int (nI e)), (2, .int ((0 : Int32)))]) (st' := [.int (0), .ref (X.1 8)]) rfl ?_
        refine x_put rfl rfl R.c8 rfl ?_
        refine gen_h (A := Rep u v X P M ((0, z.2))) (R.mCode _) (fun h R => ?_)
        refine x_run 1 (pc' := 58) (lv' := [(0, .ref (X.1 8)), (1, .int (nI e)), (2, .int ((0 : Int32)))]) (st' := [.ref (X.1 8)]) rfl ?_
        refine x_get (v := .int (0)) rfl rfl R.c8 rfl ?_
        refine x_if (c := nI 0 ≤ nI 0) (t := 66) rfl rfl (fun c8 => ?_) (fun c8 => ?_)
        · replace c8 := (nI_leI (by omega) (by omega)).mp c8
          refine x_run 1 (pc' := 67) (lv' := [(0, .ref (X.1 8)), (1, .int (nI e)), (2, .int ((0 : Int32)))]) (st' := [.int ((0 : Int32))]) rfl ?_
          refine x_if (c := ¬ nI 0 = nI 0) (t := 80) rfl rfl (fun c9 => ?_) (fun c9 => ?_)
          · replace c9 := mt (nI_eq (by omega) (by omega)).mpr c9
            omega
          · replace c9 := (nI_eq (by omega) (by omega)).mp (Classical.not_not.mp c9)
            refine x_run 1 (pc' := 71) (lv' := [(0, .ref (X.1 8)), (1, .int (nI e)), (2, .int ((0 : Int32)))]) (st' := [.ref (X.1 8)]) rfl ?_
            refine x_get (v := .ref (X.1 21)) rfl rfl R.c8 rfl ?_
            refine x_run 1 (pc' := 75) (lv' := [(0, .ref (X.1 8)), (1, .int (nI e)), (2, .int ((0 : Int32)))]) (st' := [.int (nI e), .ref (X.1 21)]) rfl ?_
            refine x_iald (j := e) rfl R.c21 (mm_idx_nI (by omega) (by omega)) ?_
            refine x_run 2 (pc' := 101) (lv' := [(0, .ref (X.1 8)), (1, .int (nI e)), (2, .int ((0 : Int32)))]) (st' := [.long ((pI M 2 e).toInt64)]) rfl ?_
            exact x_ret (v := some (.long ((pI M 2 e).toInt64))) rfl rfl rfl ⟨rfl, _, fun _ => rfl, R⟩
        · replace c8 := mt (nI_leI (by omega) (by omega)).mpr c8
          omega
    · replace c6 := bI_0.mp (Classical.not_not.mp c6)
      cases c6
theorem k_entry1 (R : Rep u v X P M z h) {e : Nat} (he : e < 3000) (hk : p_keeps M (nI e) = true) : Wx (d + 2) 94 0 (lv_args 0 [.ref (X.1 8), .int (nI e), .int ((1 : Int32))]) [] h (mQ u v X P z (0, some (.long ((pI M 3 e).toInt64)), M)) := by
  have jb := R.wM.2.2.1
  have he2 := keeps_t hk he (by omega)
  show Wx _ _ 0 [(0, .ref (X.1 8)), (1, .int (nI e)), (2, .int ((1 : Int32)))] [] h _
  refine x_run 5 (pc' := 5) (lv' := [(0, .ref (X.1 8)), (1, .int (nI e)), (2, .int ((1 : Int32)))]) (st' := [.ref (X.1 8), .long (0), .long ((nI e).toInt64), .ref (X.1 8)]) rfl ?_
  refine x_get (v := .int (nI (pj M))) rfl rfl R.c8 rfl ?_
  refine x_run 1 (pc' := 11) (lv' := [(0, .ref (X.1 8)), (1, .int (nI e)), (2, .int ((1 : Int32)))]) (st' := [.int (3000), .int (nI (pj M)), .long (0), .long ((nI e).toInt64), .ref (X.1 8)]) rfl ?_
  refine x_if (c := nI 3000 ≤ nI (pj M)) (t := 21) rfl rfl (fun c1 => ?_) (fun c1 => ?_)
  · replace c1 := (nI_leI (by omega) (by omega)).mp c1
    refine x_run 4 (pc' := 27) (lv' := [(0, .ref (X.1 8)), (1, .int (nI e)), (2, .int ((1 : Int32)))]) (st' := [.long ((3000 - 1 : Int32).toInt64), .long (0), .long ((nI e).toInt64), .ref (X.1 8)]) rfl ?_
    refine x_rd (v := .int (bI (true))) (k' := 55) (as := [.long ((nI e).toInt64), .long (0), .long ((3000 - 1 : Int32).toInt64)]) (rest := [.ref (X.1 8)]) (x_isS (np := 3) rfl rfl rfl rfl rfl) (k_inE (m_is_t (n := 3000) he (by omega))) ?_
    refine x_if (c := ¬ bI (true) = 0) (t := 37) rfl rfl (fun c2 => ?_) (fun c2 => ?_)
    · replace c2 := bI_n0 c2
      refine x_run 3 (pc' := 40) (lv' := [(0, .ref (X.1 8)), (1, .int (nI e)), (2, .int ((1 : Int32)))]) (st' := [.long (0), .long (((1 : Int32)).toInt64), .ref (X.1 8)]) rfl ?_
      refine x_ldc2 (x := 2) rfl rfl ?_
      refine x_rd (v := .int (bI (true))) (k' := 55) (as := [.long (((1 : Int32)).toInt64), .long (0), .long (2)]) (rest := [.ref (X.1 8)]) (x_isS (np := 3) rfl rfl rfl rfl rfl) (k_inE (by decide)) ?_
      refine x_if (c := bI (true) = 0) (t := 53) rfl rfl (fun c3 => ?_) (fun c3 => ?_)
      · replace c3 := bI_0.mp c3
        cases c3
      · replace c3 := bI_n0 c3
        refine x_run 2 (pc' := 54) (lv' := [(0, .ref (X.1 8)), (1, .int (nI e)), (2, .int ((1 : Int32)))]) (st' := [.int (0), .ref (X.1 8)]) rfl ?_
        refine x_put rfl rfl R.c8 rfl ?_
        refine gen_h (A := Rep u v X P M ((0, z.2))) (R.mCode _) (fun h R => ?_)
        refine x_run 1 (pc' := 58) (lv' := [(0, .ref (X.1 8)), (1, .int (nI e)), (2, .int ((1 : Int32)))]) (st' := [.ref (X.1 8)]) rfl ?_
        refine x_get (v := .int (0)) rfl rfl R.c8 rfl ?_
        refine x_if (c := nI 0 ≤ nI 0) (t := 66) rfl rfl (fun c4 => ?_) (fun c4 => ?_)
        · replace c4 := (nI_leI (by omega) (by omega)).mp c4
          refine x_run 1 (pc' := 67) (lv' := [(0, .ref (X.1 8)), (1, .int (nI e)), (2, .int ((1 : Int32)))]) (st' := [.int ((1 : Int32))]) rfl ?_
          refine x_if (c := ¬ nI 1 = nI 0) (t := 80) rfl rfl (fun c5 => ?_) (fun c5 => ?_)
          · replace c5 := mt (nI_eq (by omega) (by omega)).mpr c5
            refine x_run 2 (pc' := 82) (lv' := [(0, .ref (X.1 8)), (1, .int (nI e)), (2, .int ((1 : Int32)))]) (st' := [.int (1), .int ((1 : Int32))]) rfl ?_
            refine x_if (c := ¬ nI 1 = nI 1) (t := 95) rfl rfl (fun c6 => ?_) (fun c6 => ?_)
            · replace c6 := mt (nI_eq (by omega) (by omega)).mpr c6
              omega
            · replace c6 := (nI_eq (by omega) (by omega)).mp (Classical.not_not.mp c6)
              refine x_run 1 (pc' := 86) (lv' := [(0, .ref (X.1 8)), (1, .int (nI e)), (2, .int ((1 : Int32)))]) (st' := [.ref (X.1 8)]) rfl ?_
              refine x_get (v := .ref (X.1 22)) rfl rfl R.c8 rfl ?_
              refine x_run 1 (pc' := 90) (lv' := [(0, .ref (X.1 8)), (1, .int (nI e)), (2, .int ((1 : Int32)))]) (st' := [.int (nI e), .ref (X.1 22)]) rfl ?_
              refine x_iald (j := e) rfl R.c22 (mm_idx_nI (by omega) (by omega)) ?_
              refine x_run 2 (pc' := 101) (lv' := [(0, .ref (X.1 8)), (1, .int (nI e)), (2, .int ((1 : Int32)))]) (st' := [.long ((pI M 3 e).toInt64)]) rfl ?_
              exact x_ret (v := some (.long ((pI M 3 e).toInt64))) rfl rfl rfl ⟨rfl, _, fun _ => rfl, R⟩
          · replace c5 := (nI_eq (by omega) (by omega)).mp (Classical.not_not.mp c5)
            omega
        · replace c4 := mt (nI_leI (by omega) (by omega)).mpr c4
          omega
    · replace c2 := bI_0.mp (Classical.not_not.mp c2)
      cases c2
  · replace c1 := mt (nI_leI (by omega) (by omega)).mpr c1
    refine x_run 1 (pc' := 15) (lv' := [(0, .ref (X.1 8)), (1, .int (nI e)), (2, .int ((1 : Int32)))]) (st' := [.ref (X.1 8), .long (0), .long ((nI e).toInt64), .ref (X.1 8)]) rfl ?_
    refine x_get (v := .int (nI (pj M))) rfl rfl R.c8 rfl ?_
    refine x_run 4 (pc' := 27) (lv' := [(0, .ref (X.1 8)), (1, .int (nI e)), (2, .int ((1 : Int32)))]) (st' := [.long (((nI (pj M)) - 1).toInt64), .long (0), .long ((nI e).toInt64), .ref (X.1 8)]) rfl ?_
    refine x_rd (v := .int (bI (true))) (k' := 55) (as := [.long ((nI e).toInt64), .long (0), .long (((nI (pj M)) - 1).toInt64)]) (rest := [.ref (X.1 8)]) (x_isS (np := 3) rfl rfl rfl rfl rfl) (k_inE (m_is_t he2 (by omega))) ?_
    refine x_if (c := ¬ bI (true) = 0) (t := 37) rfl rfl (fun c7 => ?_) (fun c7 => ?_)
    · replace c7 := bI_n0 c7
      refine x_run 3 (pc' := 40) (lv' := [(0, .ref (X.1 8)), (1, .int (nI e)), (2, .int ((1 : Int32)))]) (st' := [.long (0), .long (((1 : Int32)).toInt64), .ref (X.1 8)]) rfl ?_
      refine x_ldc2 (x := 2) rfl rfl ?_
      refine x_rd (v := .int (bI (true))) (k' := 55) (as := [.long (((1 : Int32)).toInt64), .long (0), .long (2)]) (rest := [.ref (X.1 8)]) (x_isS (np := 3) rfl rfl rfl rfl rfl) (k_inE (by decide)) ?_
      refine x_if (c := bI (true) = 0) (t := 53) rfl rfl (fun c8 => ?_) (fun c8 => ?_)
      · replace c8 := bI_0.mp c8
        cases c8
      · replace c8 := bI_n0 c8
        refine x_run 2 (pc' := 54) (lv' := [(0, .ref (X.1 8)), (1, .int (nI e)), (2, .int ((1 : Int32)))]) (st' := [.int (0), .ref (X.1 8)]) rfl ?_
        refine x_put rfl rfl R.c8 rfl ?_
        refine gen_h (A := Rep u v X P M ((0, z.2))) (R.mCode _) (fun h R => ?_)
        refine x_run 1 (pc' := 58) (lv' := [(0, .ref (X.1 8)), (1, .int (nI e)), (2, .int ((1 : Int32)))]) (st' := [.ref (X.1 8)]) rfl ?_
        refine x_get (v := .int (0)) rfl rfl R.c8 rfl ?_
        refine x_if (c := nI 0 ≤ nI 0) (t := 66) rfl rfl (fun c9 => ?_) (fun c9 => ?_)
        · replace c9 := (nI_leI (by omega) (by omega)).mp c9
          refine x_run 1 (pc' := 67) (lv' := [(0, .ref (X.1 8)), (1, .int (nI e)), (2, .int ((1 : Int32)))]) (st' := [.int ((1 : Int32))]) rfl ?_
          refine x_if (c := ¬ nI 1 = nI 0) (t := 80) rfl rfl (fun c10 => ?_) (fun c10 => ?_)
          · replace c10 := mt (nI_eq (by omega) (by omega)).mpr c10
            refine x_run 2 (pc' := 82) (lv' := [(0, .ref (X.1 8)), (1, .int (nI e)), (2, .int ((1 : Int32)))]) (st' := [.int (1), .int ((1 : Int32))]) rfl ?_
            refine x_if (c := ¬ nI 1 = nI 1) (t := 95) rfl rfl (fun c11 => ?_) (fun c11 => ?_)
            · replace c11 := mt (nI_eq (by omega) (by omega)).mpr c11
              omega
            · replace c11 := (nI_eq (by omega) (by omega)).mp (Classical.not_not.mp c11)
              refine x_run 1 (pc' := 86) (lv' := [(0, .ref (X.1 8)), (1, .int (nI e)), (2, .int ((1 : Int32)))]) (st' := [.ref (X.1 8)]) rfl ?_
              refine x_get (v := .ref (X.1 22)) rfl rfl R.c8 rfl ?_
              refine x_run 1 (pc' := 90) (lv' := [(0, .ref (X.1 8)), (1, .int (nI e)), (2, .int ((1 : Int32)))]) (st' := [.int (nI e), .ref (X.1 22)]) rfl ?_
              refine x_iald (j := e) rfl R.c22 (mm_idx_nI (by omega) (by omega)) ?_
              refine x_run 2 (pc' := 101) (lv' := [(0, .ref (X.1 8)), (1, .int (nI e)), (2, .int ((1 : Int32)))]) (st' := [.long ((pI M 3 e).toInt64)]) rfl ?_
              exact x_ret (v := some (.long ((pI M 3 e).toInt64))) rfl rfl rfl ⟨rfl, _, fun _ => rfl, R⟩
          · replace c10 := (nI_eq (by omega) (by omega)).mp (Classical.not_not.mp c10)
            omega
        · replace c9 := mt (nI_leI (by omega) (by omega)).mpr c9
          omega
    · replace c7 := bI_0.mp (Classical.not_not.mp c7)
      cases c7
theorem k_entry2 (R : Rep u v X P M z h) {e : Nat} (he : e < 3000) (hk : p_keeps M (nI e) = true) : Wx (d + 2) 94 0 (lv_args 0 [.ref (X.1 8), .int (nI e), .int ((2 : Int32))]) [] h (mQ u v X P z (0, some (.long (pL M 6 e)), M)) := by
  have jb := R.wM.2.2.1
  have he2 := keeps_t hk he (by omega)
  show Wx _ _ 0 [(0, .ref (X.1 8)), (1, .int (nI e)), (2, .int ((2 : Int32)))] [] h _
  refine x_run 5 (pc' := 5) (lv' := [(0, .ref (X.1 8)), (1, .int (nI e)), (2, .int ((2 : Int32)))]) (st' := [.ref (X.1 8), .long (0), .long ((nI e).toInt64), .ref (X.1 8)]) rfl ?_
  refine x_get (v := .int (nI (pj M))) rfl rfl R.c8 rfl ?_
  refine x_run 1 (pc' := 11) (lv' := [(0, .ref (X.1 8)), (1, .int (nI e)), (2, .int ((2 : Int32)))]) (st' := [.int (3000), .int (nI (pj M)), .long (0), .long ((nI e).toInt64), .ref (X.1 8)]) rfl ?_
  refine x_if (c := nI 3000 ≤ nI (pj M)) (t := 21) rfl rfl (fun c1 => ?_) (fun c1 => ?_)
  · replace c1 := (nI_leI (by omega) (by omega)).mp c1
    refine x_run 4 (pc' := 27) (lv' := [(0, .ref (X.1 8)), (1, .int (nI e)), (2, .int ((2 : Int32)))]) (st' := [.long ((3000 - 1 : Int32).toInt64), .long (0), .long ((nI e).toInt64), .ref (X.1 8)]) rfl ?_
    refine x_rd (v := .int (bI (true))) (k' := 55) (as := [.long ((nI e).toInt64), .long (0), .long ((3000 - 1 : Int32).toInt64)]) (rest := [.ref (X.1 8)]) (x_isS (np := 3) rfl rfl rfl rfl rfl) (k_inE (m_is_t (n := 3000) he (by omega))) ?_
    refine x_if (c := ¬ bI (true) = 0) (t := 37) rfl rfl (fun c2 => ?_) (fun c2 => ?_)
    · replace c2 := bI_n0 c2
      refine x_run 3 (pc' := 40) (lv' := [(0, .ref (X.1 8)), (1, .int (nI e)), (2, .int ((2 : Int32)))]) (st' := [.long (0), .long (((2 : Int32)).toInt64), .ref (X.1 8)]) rfl ?_
      refine x_ldc2 (x := 2) rfl rfl ?_
      refine x_rd (v := .int (bI (true))) (k' := 55) (as := [.long (((2 : Int32)).toInt64), .long (0), .long (2)]) (rest := [.ref (X.1 8)]) (x_isS (np := 3) rfl rfl rfl rfl rfl) (k_inE (by decide)) ?_
      refine x_if (c := bI (true) = 0) (t := 53) rfl rfl (fun c3 => ?_) (fun c3 => ?_)
      · replace c3 := bI_0.mp c3
        cases c3
      · replace c3 := bI_n0 c3
        refine x_run 2 (pc' := 54) (lv' := [(0, .ref (X.1 8)), (1, .int (nI e)), (2, .int ((2 : Int32)))]) (st' := [.int (0), .ref (X.1 8)]) rfl ?_
        refine x_put rfl rfl R.c8 rfl ?_
        refine gen_h (A := Rep u v X P M ((0, z.2))) (R.mCode _) (fun h R => ?_)
        refine x_run 1 (pc' := 58) (lv' := [(0, .ref (X.1 8)), (1, .int (nI e)), (2, .int ((2 : Int32)))]) (st' := [.ref (X.1 8)]) rfl ?_
        refine x_get (v := .int (0)) rfl rfl R.c8 rfl ?_
        refine x_if (c := nI 0 ≤ nI 0) (t := 66) rfl rfl (fun c4 => ?_) (fun c4 => ?_)
        · replace c4 := (nI_leI (by omega) (by omega)).mp c4
          refine x_run 1 (pc' := 67) (lv' := [(0, .ref (X.1 8)), (1, .int (nI e)), (2, .int ((2 : Int32)))]) (st' := [.int ((2 : Int32))]) rfl ?_
          refine x_if (c := ¬ nI 2 = nI 0) (t := 80) rfl rfl (fun c5 => ?_) (fun c5 => ?_)
          · replace c5 := mt (nI_eq (by omega) (by omega)).mpr c5
            refine x_run 2 (pc' := 82) (lv' := [(0, .ref (X.1 8)), (1, .int (nI e)), (2, .int ((2 : Int32)))]) (st' := [.int (1), .int ((2 : Int32))]) rfl ?_
            refine x_if (c := ¬ nI 2 = nI 1) (t := 95) rfl rfl (fun c6 => ?_) (fun c6 => ?_)
            · replace c6 := mt (nI_eq (by omega) (by omega)).mpr c6
              refine x_run 1 (pc' := 96) (lv' := [(0, .ref (X.1 8)), (1, .int (nI e)), (2, .int ((2 : Int32)))]) (st' := [.ref (X.1 8)]) rfl ?_
              refine x_get (v := .ref (X.1 23)) rfl rfl R.c8 rfl ?_
              refine x_run 1 (pc' := 100) (lv' := [(0, .ref (X.1 8)), (1, .int (nI e)), (2, .int ((2 : Int32)))]) (st' := [.int (nI e), .ref (X.1 23)]) rfl ?_
              refine x_lald (j := e) rfl R.c23 (mm_idx_nI (by omega) (by omega)) ?_
              exact x_ret (v := some (.long (pL M 6 e))) rfl rfl rfl ⟨rfl, _, fun _ => rfl, R⟩
            · replace c6 := (nI_eq (by omega) (by omega)).mp (Classical.not_not.mp c6)
              omega
          · replace c5 := (nI_eq (by omega) (by omega)).mp (Classical.not_not.mp c5)
            omega
        · replace c4 := mt (nI_leI (by omega) (by omega)).mpr c4
          omega
    · replace c2 := bI_0.mp (Classical.not_not.mp c2)
      cases c2
  · replace c1 := mt (nI_leI (by omega) (by omega)).mpr c1
    refine x_run 1 (pc' := 15) (lv' := [(0, .ref (X.1 8)), (1, .int (nI e)), (2, .int ((2 : Int32)))]) (st' := [.ref (X.1 8), .long (0), .long ((nI e).toInt64), .ref (X.1 8)]) rfl ?_
    refine x_get (v := .int (nI (pj M))) rfl rfl R.c8 rfl ?_
    refine x_run 4 (pc' := 27) (lv' := [(0, .ref (X.1 8)), (1, .int (nI e)), (2, .int ((2 : Int32)))]) (st' := [.long (((nI (pj M)) - 1).toInt64), .long (0), .long ((nI e).toInt64), .ref (X.1 8)]) rfl ?_
    refine x_rd (v := .int (bI (true))) (k' := 55) (as := [.long ((nI e).toInt64), .long (0), .long (((nI (pj M)) - 1).toInt64)]) (rest := [.ref (X.1 8)]) (x_isS (np := 3) rfl rfl rfl rfl rfl) (k_inE (m_is_t he2 (by omega))) ?_
    refine x_if (c := ¬ bI (true) = 0) (t := 37) rfl rfl (fun c7 => ?_) (fun c7 => ?_)
    · replace c7 := bI_n0 c7
      refine x_run 3 (pc' := 40) (lv' := [(0, .ref (X.1 8)), (1, .int (nI e)), (2, .int ((2 : Int32)))]) (st' := [.long (0), .long (((2 : Int32)).toInt64), .ref (X.1 8)]) rfl ?_
      refine x_ldc2 (x := 2) rfl rfl ?_
      refine x_rd (v := .int (bI (true))) (k' := 55) (as := [.long (((2 : Int32)).toInt64), .long (0), .long (2)]) (rest := [.ref (X.1 8)]) (x_isS (np := 3) rfl rfl rfl rfl rfl) (k_inE (by decide)) ?_
      refine x_if (c := bI (true) = 0) (t := 53) rfl rfl (fun c8 => ?_) (fun c8 => ?_)
      · replace c8 := bI_0.mp c8
        cases c8
      · replace c8 := bI_n0 c8
        refine x_run 2 (pc' := 54) (lv' := [(0, .ref (X.1 8)), (1, .int (nI e)), (2, .int ((2 : Int32)))]) (st' := [.int (0), .ref (X.1 8)]) rfl ?_
        refine x_put rfl rfl R.c8 rfl ?_
        refine gen_h (A := Rep u v X P M ((0, z.2))) (R.mCode _) (fun h R => ?_)
        refine x_run 1 (pc' := 58) (lv' := [(0, .ref (X.1 8)), (1, .int (nI e)), (2, .int ((2 : Int32)))]) (st' := [.ref (X.1 8)]) rfl ?_
        refine x_get (v := .int (0)) rfl rfl R.c8 rfl ?_
        refine x_if (c := nI 0 ≤ nI 0) (t := 66) rfl rfl (fun c9 => ?_) (fun c9 => ?_)
        · replace c9 := (nI_leI (by omega) (by omega)).mp c9
          refine x_run 1 (pc' := 67) (lv' := [(0, .ref (X.1 8)), (1, .int (nI e)), (2, .int ((2 : Int32)))]) (st' := [.int ((2 : Int32))]) rfl ?_
          refine x_if (c := ¬ nI 2 = nI 0) (t := 80) rfl rfl (fun c10 => ?_) (fun c10 => ?_)
          · replace c10 := mt (nI_eq (by omega) (by omega)).mpr c10
            refine x_run 2 (pc' := 82) (lv' := [(0, .ref (X.1 8)), (1, .int (nI e)), (2, .int ((2 : Int32)))]) (st' := [.int (1), .int ((2 : Int32))]) rfl ?_
            refine x_if (c := ¬ nI 2 = nI 1) (t := 95) rfl rfl (fun c11 => ?_) (fun c11 => ?_)
            · replace c11 := mt (nI_eq (by omega) (by omega)).mpr c11
              refine x_run 1 (pc' := 96) (lv' := [(0, .ref (X.1 8)), (1, .int (nI e)), (2, .int ((2 : Int32)))]) (st' := [.ref (X.1 8)]) rfl ?_
              refine x_get (v := .ref (X.1 23)) rfl rfl R.c8 rfl ?_
              refine x_run 1 (pc' := 100) (lv' := [(0, .ref (X.1 8)), (1, .int (nI e)), (2, .int ((2 : Int32)))]) (st' := [.int (nI e), .ref (X.1 23)]) rfl ?_
              refine x_lald (j := e) rfl R.c23 (mm_idx_nI (by omega) (by omega)) ?_
              exact x_ret (v := some (.long (pL M 6 e))) rfl rfl rfl ⟨rfl, _, fun _ => rfl, R⟩
            · replace c11 := (nI_eq (by omega) (by omega)).mp (Classical.not_not.mp c11)
              omega
          · replace c10 := (nI_eq (by omega) (by omega)).mp (Classical.not_not.mp c10)
            omega
        · replace c9 := mt (nI_leI (by omega) (by omega)).mpr c9
          omega
    · replace c7 := bI_0.mp (Classical.not_not.mp c7)
      cases c7
theorem k_entryW (R : Rep u v X P M z h) {e : Nat} (he : e < 3000) (hk : p_keeps M (nI e) = true) {w : Int32} (hw : w.toInt < 0 ∨ 2 < w.toInt) : Wx (d + 2) 94 0 (lv_args 0 [.ref (X.1 8), .int (nI e), .int (w)]) [] h (mQ u v X P z (2, (some (.long 0)), M)) := by
  have jb := R.wM.2.2.1
  have he2 := keeps_t hk he (by omega)
  show Wx _ _ 0 [(0, .ref (X.1 8)), (1, .int (nI e)), (2, .int (w))] [] h _
  refine x_run 5 (pc' := 5) (lv' := [(0, .ref (X.1 8)), (1, .int (nI e)), (2, .int (w))]) (st' := [.ref (X.1 8), .long (0), .long ((nI e).toInt64), .ref (X.1 8)]) rfl ?_
  refine x_get (v := .int (nI (pj M))) rfl rfl R.c8 rfl ?_
  refine x_run 1 (pc' := 11) (lv' := [(0, .ref (X.1 8)), (1, .int (nI e)), (2, .int (w))]) (st' := [.int (3000), .int (nI (pj M)), .long (0), .long ((nI e).toInt64), .ref (X.1 8)]) rfl ?_
  refine x_if (c := nI 3000 ≤ nI (pj M)) (t := 21) rfl rfl (fun c1 => ?_) (fun c1 => ?_)
  · replace c1 := (nI_leI (by omega) (by omega)).mp c1
    refine x_run 4 (pc' := 27) (lv' := [(0, .ref (X.1 8)), (1, .int (nI e)), (2, .int (w))]) (st' := [.long ((3000 - 1 : Int32).toInt64), .long (0), .long ((nI e).toInt64), .ref (X.1 8)]) rfl ?_
    refine x_rd (v := .int (bI (true))) (k' := 55) (as := [.long ((nI e).toInt64), .long (0), .long ((3000 - 1 : Int32).toInt64)]) (rest := [.ref (X.1 8)]) (x_isS (np := 3) rfl rfl rfl rfl rfl) (k_inE (m_is_t (n := 3000) he (by omega))) ?_
    refine x_if (c := ¬ bI (true) = 0) (t := 37) rfl rfl (fun c2 => ?_) (fun c2 => ?_)
    · replace c2 := bI_n0 c2
      refine x_run 3 (pc' := 40) (lv' := [(0, .ref (X.1 8)), (1, .int (nI e)), (2, .int (w))]) (st' := [.long (0), .long ((w).toInt64), .ref (X.1 8)]) rfl ?_
      refine x_ldc2 (x := 2) rfl rfl ?_
      refine x_rd (v := .int (bI (false))) (k' := 55) (as := [.long ((w).toInt64), .long (0), .long (2)]) (rest := [.ref (X.1 8)]) (x_isS (np := 3) rfl rfl rfl rfl rfl) (k_inE (what_f hw)) ?_
      refine x_if (c := bI (false) = 0) (t := 53) rfl rfl (fun c3 => ?_) (fun c3 => ?_)
      · replace c3 := bI_0.mp c3
        refine x_run 1 (pc' := 54) (lv' := [(0, .ref (X.1 8)), (1, .int (nI e)), (2, .int (w))]) (st' := [.int (2), .ref (X.1 8)]) rfl ?_
        refine x_put rfl rfl R.c8 rfl ?_
        refine gen_h (A := Rep u v X P M ((2, z.2))) (R.mCode _) (fun h R => ?_)
        refine x_run 1 (pc' := 58) (lv' := [(0, .ref (X.1 8)), (1, .int (nI e)), (2, .int (w))]) (st' := [.ref (X.1 8)]) rfl ?_
        refine x_get (v := .int (2)) rfl rfl R.c8 rfl ?_
        refine x_if (c := nI 2 ≤ nI 0) (t := 66) rfl rfl (fun c4 => ?_) (fun c4 => ?_)
        · replace c4 := (nI_leI (by omega) (by omega)).mp c4
          omega
        · replace c4 := mt (nI_leI (by omega) (by omega)).mpr c4
          refine x_run 1 (pc' := 65) (lv' := [(0, .ref (X.1 8)), (1, .int (nI e)), (2, .int (w))]) (st' := [.long (0)]) rfl ?_
          exact x_ret (v := some (.long (0))) rfl rfl rfl ⟨rfl, _, fun _ => rfl, R⟩
      · replace c3 := bI_n0 c3
        cases c3
    · replace c2 := bI_0.mp (Classical.not_not.mp c2)
      cases c2
  · replace c1 := mt (nI_leI (by omega) (by omega)).mpr c1
    refine x_run 1 (pc' := 15) (lv' := [(0, .ref (X.1 8)), (1, .int (nI e)), (2, .int (w))]) (st' := [.ref (X.1 8), .long (0), .long ((nI e).toInt64), .ref (X.1 8)]) rfl ?_
    refine x_get (v := .int (nI (pj M))) rfl rfl R.c8 rfl ?_
    refine x_run 4 (pc' := 27) (lv' := [(0, .ref (X.1 8)), (1, .int (nI e)), (2, .int (w))]) (st' := [.long (((nI (pj M)) - 1).toInt64), .long (0), .long ((nI e).toInt64), .ref (X.1 8)]) rfl ?_
    refine x_rd (v := .int (bI (true))) (k' := 55) (as := [.long ((nI e).toInt64), .long (0), .long (((nI (pj M)) - 1).toInt64)]) (rest := [.ref (X.1 8)]) (x_isS (np := 3) rfl rfl rfl rfl rfl) (k_inE (m_is_t he2 (by omega))) ?_
    refine x_if (c := ¬ bI (true) = 0) (t := 37) rfl rfl (fun c5 => ?_) (fun c5 => ?_)
    · replace c5 := bI_n0 c5
      refine x_run 3 (pc' := 40) (lv' := [(0, .ref (X.1 8)), (1, .int (nI e)), (2, .int (w))]) (st' := [.long (0), .long ((w).toInt64), .ref (X.1 8)]) rfl ?_
      refine x_ldc2 (x := 2) rfl rfl ?_
      refine x_rd (v := .int (bI (false))) (k' := 55) (as := [.long ((w).toInt64), .long (0), .long (2)]) (rest := [.ref (X.1 8)]) (x_isS (np := 3) rfl rfl rfl rfl rfl) (k_inE (what_f hw)) ?_
      refine x_if (c := bI (false) = 0) (t := 53) rfl rfl (fun c6 => ?_) (fun c6 => ?_)
      · replace c6 := bI_0.mp c6
        refine x_run 1 (pc' := 54) (lv' := [(0, .ref (X.1 8)), (1, .int (nI e)), (2, .int (w))]) (st' := [.int (2), .ref (X.1 8)]) rfl ?_
        refine x_put rfl rfl R.c8 rfl ?_
        refine gen_h (A := Rep u v X P M ((2, z.2))) (R.mCode _) (fun h R => ?_)
        refine x_run 1 (pc' := 58) (lv' := [(0, .ref (X.1 8)), (1, .int (nI e)), (2, .int (w))]) (st' := [.ref (X.1 8)]) rfl ?_
        refine x_get (v := .int (2)) rfl rfl R.c8 rfl ?_
        refine x_if (c := nI 2 ≤ nI 0) (t := 66) rfl rfl (fun c7 => ?_) (fun c7 => ?_)
        · replace c7 := (nI_leI (by omega) (by omega)).mp c7
          omega
        · replace c7 := mt (nI_leI (by omega) (by omega)).mpr c7
          refine x_run 1 (pc' := 65) (lv' := [(0, .ref (X.1 8)), (1, .int (nI e)), (2, .int (w))]) (st' := [.long (0)]) rfl ?_
          exact x_ret (v := some (.long (0))) rfl rfl rfl ⟨rfl, _, fun _ => rfl, R⟩
      · replace c6 := bI_n0 c6
        cases c6
    · replace c5 := bI_0.mp (Classical.not_not.mp c5)
      cases c5
theorem k_entryX (R : Rep u v X P M z h) {q : Int32} (hk : p_keeps M q = false) (w : Int32) : Wx (d + 2) 94 0 (lv_args 0 [.ref (X.1 8), .int (q), .int (w)]) [] h (mQ u v X P z (1, (some (.long 0)), M)) := by
  have jb := R.wM.2.2.1
  show Wx _ _ 0 [(0, .ref (X.1 8)), (1, .int (q)), (2, .int (w))] [] h _
  refine x_run 5 (pc' := 5) (lv' := [(0, .ref (X.1 8)), (1, .int (q)), (2, .int (w))]) (st' := [.ref (X.1 8), .long (0), .long ((q).toInt64), .ref (X.1 8)]) rfl ?_
  refine x_get (v := .int (nI (pj M))) rfl rfl R.c8 rfl ?_
  refine x_run 1 (pc' := 11) (lv' := [(0, .ref (X.1 8)), (1, .int (q)), (2, .int (w))]) (st' := [.int (3000), .int (nI (pj M)), .long (0), .long ((q).toInt64), .ref (X.1 8)]) rfl ?_
  refine x_if (c := nI 3000 ≤ nI (pj M)) (t := 21) rfl rfl (fun c1 => ?_) (fun c1 => ?_)
  · replace c1 := (nI_leI (by omega) (by omega)).mp c1
    refine x_run 4 (pc' := 27) (lv' := [(0, .ref (X.1 8)), (1, .int (q)), (2, .int (w))]) (st' := [.long ((3000 - 1 : Int32).toInt64), .long (0), .long ((q).toInt64), .ref (X.1 8)]) rfl ?_
    refine x_rd (v := .int (bI (false))) (k' := 55) (as := [.long ((q).toInt64), .long (0), .long ((3000 - 1 : Int32).toInt64)]) (rest := [.ref (X.1 8)]) (x_isS (np := 3) rfl rfl rfl rfl rfl) (k_inE (m_is_f (n := 3000) (by omega) (keeps_f2 hk (by omega) (by omega)))) ?_
    refine x_if (c := ¬ bI (false) = 0) (t := 37) rfl rfl (fun c2 => ?_) (fun c2 => ?_)
    · replace c2 := bI_n0 c2
      cases c2
    · replace c2 := bI_0.mp (Classical.not_not.mp c2)
      refine x_run 2 (pc' := 54) (lv' := [(0, .ref (X.1 8)), (1, .int (q)), (2, .int (w))]) (st' := [.int (1), .ref (X.1 8)]) rfl ?_
      refine x_put rfl rfl R.c8 rfl ?_
      refine gen_h (A := Rep u v X P M ((1, z.2))) (R.mCode _) (fun h R => ?_)
      refine x_run 1 (pc' := 58) (lv' := [(0, .ref (X.1 8)), (1, .int (q)), (2, .int (w))]) (st' := [.ref (X.1 8)]) rfl ?_
      refine x_get (v := .int (1)) rfl rfl R.c8 rfl ?_
      refine x_if (c := nI 1 ≤ nI 0) (t := 66) rfl rfl (fun c3 => ?_) (fun c3 => ?_)
      · replace c3 := (nI_leI (by omega) (by omega)).mp c3
        omega
      · replace c3 := mt (nI_leI (by omega) (by omega)).mpr c3
        refine x_run 1 (pc' := 65) (lv' := [(0, .ref (X.1 8)), (1, .int (q)), (2, .int (w))]) (st' := [.long (0)]) rfl ?_
        exact x_ret (v := some (.long (0))) rfl rfl rfl ⟨rfl, _, fun _ => rfl, R⟩
  · replace c1 := mt (nI_leI (by omega) (by omega)).mpr c1
    refine x_run 1 (pc' := 15) (lv' := [(0, .ref (X.1 8)), (1, .int (q)), (2, .int (w))]) (st' := [.ref (X.1 8), .long (0), .long ((q).toInt64), .ref (X.1 8)]) rfl ?_
    refine x_get (v := .int (nI (pj M))) rfl rfl R.c8 rfl ?_
    refine x_run 4 (pc' := 27) (lv' := [(0, .ref (X.1 8)), (1, .int (q)), (2, .int (w))]) (st' := [.long (((nI (pj M)) - 1).toInt64), .long (0), .long ((q).toInt64), .ref (X.1 8)]) rfl ?_
    refine x_rd (v := .int (bI (false))) (k' := 55) (as := [.long ((q).toInt64), .long (0), .long (((nI (pj M)) - 1).toInt64)]) (rest := [.ref (X.1 8)]) (x_isS (np := 3) rfl rfl rfl rfl rfl) (k_inE (m_is_f (by omega) (keeps_f1 hk (by omega)))) ?_
    refine x_if (c := ¬ bI (false) = 0) (t := 37) rfl rfl (fun c4 => ?_) (fun c4 => ?_)
    · replace c4 := bI_n0 c4
      cases c4
    · replace c4 := bI_0.mp (Classical.not_not.mp c4)
      refine x_run 2 (pc' := 54) (lv' := [(0, .ref (X.1 8)), (1, .int (q)), (2, .int (w))]) (st' := [.int (1), .ref (X.1 8)]) rfl ?_
      refine x_put rfl rfl R.c8 rfl ?_
      refine gen_h (A := Rep u v X P M ((1, z.2))) (R.mCode _) (fun h R => ?_)
      refine x_run 1 (pc' := 58) (lv' := [(0, .ref (X.1 8)), (1, .int (q)), (2, .int (w))]) (st' := [.ref (X.1 8)]) rfl ?_
      refine x_get (v := .int (1)) rfl rfl R.c8 rfl ?_
      refine x_if (c := nI 1 ≤ nI 0) (t := 66) rfl rfl (fun c5 => ?_) (fun c5 => ?_)
      · replace c5 := (nI_leI (by omega) (by omega)).mp c5
        omega
      · replace c5 := mt (nI_leI (by omega) (by omega)).mpr c5
        refine x_run 1 (pc' := 65) (lv' := [(0, .ref (X.1 8)), (1, .int (q)), (2, .int (w))]) (st' := [.long (0)]) rfl ?_
        exact x_ret (v := some (.long (0))) rfl rfl rfl ⟨rfl, _, fun _ => rfl, R⟩
end MOD5
