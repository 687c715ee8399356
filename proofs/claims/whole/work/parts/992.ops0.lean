section OPS0
variable {u v d : Nat} {X : xX} {P M : pP} {z : zZ} {h : mm_H} {i j : Nat}
theorem k_divE (R : Rep u v X P M z h) {r p : Nat} (hr : r < 8) (h1 : 1 ≤ p) (h2 : p ≤ 10000) (he : ¬ pI M 4 0 = 0) : Wx (d + 4) 81 0 (lv_args 0 [.ref (X.1 8), .int (nI r), .int (nI p)]) [] h (mQ u v X P z (mo (cd 5 6 8) (some (.long 0)) (o_div p_open M r p))) := by
  have p4 := R.wM.pc r
  show Wx _ _ 0 [(0, .ref (X.1 8)), (1, .int (nI r)), (2, .int (nI p))] [] h _
  refine x_run 2 (pc' := 2) (lv' := [(0, .ref (X.1 8)), (1, .int (nI r)), (2, .int (nI p))]) (st' := [.int (nI r), .ref (X.1 8)]) rfl ?_
  refine x_rd (v := .int (bI (true))) (k' := 58) (as := [.int (nI r)]) (rest := [.ref (X.1 8)]) (x_isS (np := 1) rfl rfl rfl rfl rfl) (k_isRt hr) ?_
  refine x_if (c := bI (true) = 0) (t := 20) rfl rfl (fun c1 => ?_) (fun c1 => ?_)
  · replace c1 := bI_0.mp c1
    cases c1
  · replace c1 := bI_n0 c1
    refine x_run 3 (pc' := 11) (lv' := [(0, .ref (X.1 8)), (1, .int (nI r)), (2, .int (nI p))]) (st' := [.long (1), .long ((nI p).toInt64), .ref (X.1 8)]) rfl ?_
    refine x_ldc2 (x := 10000) rfl rfl ?_
    refine x_rd (v := .int (bI (true))) (k' := 55) (as := [.long ((nI p).toInt64), .long (1), .long (10000)]) (rest := [.ref (X.1 8)]) (x_isS (np := 3) rfl rfl rfl rfl rfl) (k_inE (pct_t h1 h2)) ?_
    refine x_if (c := ¬ bI (true) = 0) (t := 24) rfl rfl (fun c2 => ?_) (fun c2 => ?_)
    · replace c2 := bI_n0 c2
      refine x_run 1 (pc' := 25) (lv' := [(0, .ref (X.1 8)), (1, .int (nI r)), (2, .int (nI p))]) (st' := [.ref (X.1 8), .ref (X.1 8)]) rfl ?_
      refine x_get (v := .int (pI M 4 0)) rfl rfl R.c8 rfl ?_
      refine x_if (c := ¬ pI M 4 0 = 0) (t := 49) rfl rfl (fun c3 => ?_) (fun c3 => ?_)
      · refine x_run 2 (pc' := 72) (lv' := [(0, .ref (X.1 8)), (1, .int (nI r)), (2, .int (nI p))]) (st' := [.int (2), .ref (X.1 8)]) rfl ?_
        refine x_put rfl rfl R.c8 rfl ?_
        refine gen_h (A := Rep u v X P M ((2, z.2))) (R.mCode _) (fun h R => ?_)
        refine x_run 1 (pc' := 76) (lv' := [(0, .ref (X.1 8)), (1, .int (nI r)), (2, .int (nI p))]) (st' := [.ref (X.1 8)]) rfl ?_
        refine x_get (v := .int (2)) rfl rfl R.c8 rfl ?_
        refine x_if (c := nI 2 ≤ nI 0) (t := 84) rfl rfl (fun c4 => ?_) (fun c4 => ?_)
        · replace c4 := (nI_leI (by omega) (by omega)).mp c4
          omega
        · replace c4 := mt (nI_leI (by omega) (by omega)).mpr c4
          refine x_run 1 (pc' := 83) (lv' := [(0, .ref (X.1 8)), (1, .int (nI r)), (2, .int (nI p))]) (st' := [.long (0)]) rfl ?_
          rw [show o_div p_open M r p = (6, none, M) from if_pos he]
          exact x_ret (v := some (.long (0))) rfl rfl rfl ⟨rfl, _, fun _ => rfl, R⟩
      · replace c3 := Classical.not_not.mp c3
        exact absurd (by assumption) he
    · replace c2 := bI_0.mp (Classical.not_not.mp c2)
      cases c2
theorem k_catchE (R : Rep u v X P M z h) (he : ¬ pI M 4 0 = 0) : Wx (d + 4) 84 0 (lv_args 0 [.ref (X.1 8)]) [] h (mQ u v X P z (mo (cd 6 99 99) (some (.long 0)) (o_catch p_open M))) := by
  show Wx _ _ 0 [(0, .ref (X.1 8))] [] h _
  refine x_run 2 (pc' := 2) (lv' := [(0, .ref (X.1 8))]) (st' := [.ref (X.1 8), .ref (X.1 8)]) rfl ?_
  refine x_get (v := .int (pI M 4 0)) rfl rfl R.c8 rfl ?_
  refine x_if (c := pI M 4 0 = 0) (t := 12) rfl rfl (fun c1 => ?_) (fun c1 => ?_)
  · exact absurd (by assumption) he
  · refine x_run 2 (pc' := 13) (lv' := [(0, .ref (X.1 8))]) (st' := [.int (1), .ref (X.1 8)]) rfl ?_
    refine x_put rfl rfl R.c8 rfl ?_
    refine gen_h (A := Rep u v X P M ((1, z.2))) (R.mCode _) (fun h R => ?_)
    refine x_run 1 (pc' := 17) (lv' := [(0, .ref (X.1 8))]) (st' := [.ref (X.1 8)]) rfl ?_
    refine x_get (v := .int (1)) rfl rfl R.c8 rfl ?_
    refine x_if (c := nI 1 ≤ nI 0) (t := 27) rfl rfl (fun c2 => ?_) (fun c2 => ?_)
    · replace c2 := (nI_leI (by omega) (by omega)).mp c2
      omega
    · replace c2 := mt (nI_leI (by omega) (by omega)).mpr c2
      refine x_run 2 (pc' := 33) (lv' := [(0, .ref (X.1 8))]) (st' := [.long (0)]) rfl ?_
      rw [show o_catch p_open M = (6, none, M) from if_pos he]
      exact x_ret (v := some (.long (0))) rfl rfl rfl ⟨rfl, _, fun _ => rfl, R⟩
end OPS0
