section GRD
variable {u v d : Nat} {X : xX} {P M : pP} {z : zZ} {h : mm_H} {i j : Nat}
theorem c_live (R : Rep u v X P M z h) (he : pI P 4 0 = 0) : Wx (d) 18 0 (lv_args 0 [.ref (X.1 0)]) [] h (fun r0 => r0 = (.inl none, h)) := by
  show Wx _ _ 0 [(0, .ref (X.1 0))] [] h _
  refine x_run 1 (pc' := 1) (lv' := [(0, .ref (X.1 0))]) (st' := [.ref (X.1 0)]) rfl ?_
  refine x_get (v := .int (pI P 4 0)) rfl rfl R.c0 rfl ?_
  refine x_if (c := pI P 4 0 = 0) (t := 17) rfl rfl (fun c1 => ?_) (fun c1 => ?_)
  · exact x_ret (v := none) rfl rfl rfl rfl
  · exact absurd he c1
theorem c_liveX (R : Rep (u + 1) v X P M z h) (he : ¬ pI P 4 0 = 0) : Wx (d + 6) 18 0 (lv_args 0 [.ref (X.1 0)]) [] h (x_th 6 (Rep u v X P M z)) := by
  show Wx _ _ 0 [(0, .ref (X.1 0))] [] h _
  refine x_run 1 (pc' := 1) (lv' := [(0, .ref (X.1 0))]) (st' := [.ref (X.1 0)]) rfl ?_
  refine x_get (v := .int (pI P 4 0)) rfl rfl R.c0 rfl ?_
  refine x_if (c := pI P 4 0 = 0) (t := 17) rfl rfl (fun c1 => ?_) (fun c1 => ?_)
  · exact absurd c1 he
  · exact x_throw R rfl rfl rfl rfl rfl rfl rfl rfl (by omega)
theorem c_rank (R : Rep u v X P M z h) {r : Nat} (hr : r < 8) : Wx (d) 19 0 (lv_args 0 [.int (nI r)]) [] h (fun r0 => r0 = (.inl none, h)) := by
  show Wx _ _ 0 [(0, .int (nI r))] [] h _
  refine x_run 1 (pc' := 1) (lv' := [(0, .int (nI r))]) (st' := [.int (nI r)]) rfl ?_
  refine x_if (c := nI r < nI 0) (t := 10) rfl rfl (fun c1 => ?_) (fun c1 => ?_)
  · replace c1 := (nI_ltI (by omega) (by omega)).mp c1
    first | exact absurd c1 (nI_pos (by omega)) | omega
  · replace c1 := mt (nI_ltI (by omega) (by omega)).mpr c1
    refine x_run 2 (pc' := 7) (lv' := [(0, .int (nI r))]) (st' := [.int (8), .int (nI r)]) rfl ?_
    refine x_if (c := nI r < nI 8) (t := 20) rfl rfl (fun c2 => ?_) (fun c2 => ?_)
    · replace c2 := (nI_ltI (by omega) (by omega)).mp c2
      exact x_ret (v := none) rfl rfl rfl rfl
    · replace c2 := mt (nI_ltI (by omega) (by omega)).mpr c2
      first | exact absurd c1 (nI_pos (by omega)) | omega
theorem c_rankX (R : Rep (u + 1) v X P M z h) {q : Int32} (hq : q < 0 ∨ 8 ≤ q) : Wx (d + 6) 19 0 (lv_args 0 [.int (q)]) [] h (x_th 5 (Rep u v X P M z)) := by
  show Wx _ _ 0 [(0, .int (q))] [] h _
  refine x_run 1 (pc' := 1) (lv' := [(0, .int (q))]) (st' := [.int (q)]) rfl ?_
  refine x_if (c := q < 0) (t := 10) rfl rfl (fun c1 => ?_) (fun c1 => ?_)
  · exact x_throw R rfl rfl rfl rfl rfl rfl rfl rfl (by omega)
  · refine x_run 2 (pc' := 7) (lv' := [(0, .int (q))]) (st' := [.int (8), .int (q)]) rfl ?_
    refine x_if (c := q < 8) (t := 20) rfl rfl (fun c2 => ?_) (fun c2 => ?_)
    · exact absurd hq (fun e => e.elim c1 (fun e => Int32.not_lt.mpr e c2))
    · exact x_throw R rfl rfl rfl rfl rfl rfl rfl rfl (by omega)
theorem c_cents (R : Rep u v X P M z h) {c l : Int64} (hc : g_cents c l = true) : Wx (d) 20 0 (lv_args 0 [.long (c), .long (l)]) [] h (fun r0 => r0 = (.inl none, h)) := by
  show Wx _ _ 0 [(0, .long (c)), (2, .long (l))] [] h _
  refine x_run 2 (pc' := 2) (lv' := [(0, .long (c)), (2, .long (l))]) (st' := [.long (l), .long (c)]) rfl ?_
  refine x_llt (t := 14) rfl rfl rfl (fun c1 => ?_) (fun c1 => ?_)
  · first | exact absurd c1 (g_cents_t hc).1 | exact absurd (g_cents_t hc).2 c2
  · refine x_run 1 (pc' := 7) (lv' := [(0, .long (c)), (2, .long (l))]) (st' := [.long (c)]) rfl ?_
    refine x_ldc2 (x := 400000000) rfl rfl ?_
    refine x_lle (t := 24) rfl rfl rfl (fun c2 => ?_) (fun c2 => ?_)
    · exact x_ret (v := none) rfl rfl rfl rfl
    · first | exact absurd c1 (g_cents_t hc).1 | exact absurd (g_cents_t hc).2 c2
theorem c_centsX (R : Rep (u + 1) v X P M z h) {c l : Int64} (hc : g_cents c l = false) : Wx (d + 6) 20 0 (lv_args 0 [.long (c), .long (l)]) [] h (x_th 5 (Rep u v X P M z)) := by
  show Wx _ _ 0 [(0, .long (c)), (2, .long (l))] [] h _
  refine x_run 2 (pc' := 2) (lv' := [(0, .long (c)), (2, .long (l))]) (st' := [.long (l), .long (c)]) rfl ?_
  refine x_llt (t := 14) rfl rfl rfl (fun c1 => ?_) (fun c1 => ?_)
  · exact x_throw R rfl rfl rfl rfl rfl rfl rfl rfl (by omega)
  · refine x_run 1 (pc' := 7) (lv' := [(0, .long (c)), (2, .long (l))]) (st' := [.long (c)]) rfl ?_
    refine x_ldc2 (x := 400000000) rfl rfl ?_
    refine x_lle (t := 24) rfl rfl rfl (fun c2 => ?_) (fun c2 => ?_)
    · exact absurd c2 (g_cents_f hc c1)
    · exact x_throw R rfl rfl rfl rfl rfl rfl rfl rfl (by omega)
theorem c_claimAt (R : Rep u v X P M z h) (hi : i < pn P) : Wx (d) 21 0 (lv_args 0 [.ref (X.1 0), .int (nI i)]) [] h (fun r0 => r0 = (.inl (some (.ref (X.1 (100 + i)))), h)) := by
  have n60 := R.n60
  show Wx _ _ 0 [(0, .ref (X.1 0)), (1, .int (nI i))] [] h _
  refine x_run 1 (pc' := 1) (lv' := [(0, .ref (X.1 0)), (1, .int (nI i))]) (st' := [.int (nI i)]) rfl ?_
  refine x_if (c := nI i < nI 0) (t := 12) rfl rfl (fun c1 => ?_) (fun c1 => ?_)
  · replace c1 := (nI_ltI (by omega) (by omega)).mp c1
    first | exact absurd c1 (nI_pos (by omega)) | omega
  · replace c1 := mt (nI_ltI (by omega) (by omega)).mpr c1
    refine x_run 2 (pc' := 6) (lv' := [(0, .ref (X.1 0)), (1, .int (nI i))]) (st' := [.ref (X.1 0), .int (nI i)]) rfl ?_
    refine x_get (v := .int (nI (pn P))) rfl rfl R.c0 rfl ?_
    refine x_if (c := nI i < nI (pn P)) (t := 22) rfl rfl (fun c2 => ?_) (fun c2 => ?_)
    · replace c2 := (nI_ltI (by omega) (by omega)).mp c2
      refine x_run 1 (pc' := 23) (lv' := [(0, .ref (X.1 0)), (1, .int (nI i))]) (st' := [.ref (X.1 0)]) rfl ?_
      refine x_get (v := .ref (X.1 1)) rfl rfl R.c0 rfl ?_
      refine x_run 1 (pc' := 27) (lv' := [(0, .ref (X.1 0)), (1, .int (nI i))]) (st' := [.int (nI i), .ref (X.1 1)]) rfl ?_
      refine x_aald3 (j := i) rfl R.c1 (mm_idx_nI (by omega) (by omega)) ?_
      rw [if_pos hi]
      exact x_ret (v := some (.ref (X.1 (100 + i)))) rfl rfl rfl rfl
    · replace c2 := mt (nI_ltI (by omega) (by omega)).mpr c2
      first | exact absurd c1 (nI_pos (by omega)) | omega
theorem c_claimAtX (R : Rep (u + 1) v X P M z h) {q : Int32} (hq : q < 0 ∨ nI (pn P) ≤ q) : Wx (d + 6) 21 0 (lv_args 0 [.ref (X.1 0), .int (q)]) [] h (x_th 7 (Rep u v X P M z)) := by
  show Wx _ _ 0 [(0, .ref (X.1 0)), (1, .int (q))] [] h _
  refine x_run 1 (pc' := 1) (lv' := [(0, .ref (X.1 0)), (1, .int (q))]) (st' := [.int (q)]) rfl ?_
  refine x_if (c := q < 0) (t := 12) rfl rfl (fun c1 => ?_) (fun c1 => ?_)
  · exact x_throw R rfl rfl rfl rfl rfl rfl rfl rfl (by omega)
  · refine x_run 2 (pc' := 6) (lv' := [(0, .ref (X.1 0)), (1, .int (q))]) (st' := [.ref (X.1 0), .int (q)]) rfl ?_
    refine x_get (v := .int (nI (pn P))) rfl rfl R.c0 rfl ?_
    refine x_if (c := q < nI (pn P)) (t := 22) rfl rfl (fun c2 => ?_) (fun c2 => ?_)
    · exact absurd hq (fun e => e.elim c1 (fun e => Int32.not_lt.mpr e c2))
    · exact x_throw R rfl rfl rfl rfl rfl rfl rfl rfl (by omega)
theorem c_assetAt (R : Rep u v X P M z h) (hi : i < pa P) : Wx (d) 22 0 (lv_args 0 [.ref (X.1 0), .int (nI i)]) [] h (fun r0 => r0 = (.inl (some (.ref (X.1 (200 + i)))), h)) := by
  have n60 := R.a20
  show Wx _ _ 0 [(0, .ref (X.1 0)), (1, .int (nI i))] [] h _
  refine x_run 1 (pc' := 1) (lv' := [(0, .ref (X.1 0)), (1, .int (nI i))]) (st' := [.int (nI i)]) rfl ?_
  refine x_if (c := nI i < nI 0) (t := 12) rfl rfl (fun c1 => ?_) (fun c1 => ?_)
  · replace c1 := (nI_ltI (by omega) (by omega)).mp c1
    first | exact absurd c1 (nI_pos (by omega)) | omega
  · replace c1 := mt (nI_ltI (by omega) (by omega)).mpr c1
    refine x_run 2 (pc' := 6) (lv' := [(0, .ref (X.1 0)), (1, .int (nI i))]) (st' := [.ref (X.1 0), .int (nI i)]) rfl ?_
    refine x_get (v := .int (nI (pa P))) rfl rfl R.c0 rfl ?_
    refine x_if (c := nI i < nI (pa P)) (t := 22) rfl rfl (fun c2 => ?_) (fun c2 => ?_)
    · replace c2 := (nI_ltI (by omega) (by omega)).mp c2
      refine x_run 1 (pc' := 23) (lv' := [(0, .ref (X.1 0)), (1, .int (nI i))]) (st' := [.ref (X.1 0)]) rfl ?_
      refine x_get (v := .ref (X.1 2)) rfl rfl R.c0 rfl ?_
      refine x_run 1 (pc' := 27) (lv' := [(0, .ref (X.1 0)), (1, .int (nI i))]) (st' := [.int (nI i), .ref (X.1 2)]) rfl ?_
      refine x_aald4 (j := i) rfl R.c2 (mm_idx_nI (by omega) (by omega)) ?_
      rw [if_pos hi]
      exact x_ret (v := some (.ref (X.1 (200 + i)))) rfl rfl rfl rfl
    · replace c2 := mt (nI_ltI (by omega) (by omega)).mpr c2
      first | exact absurd c1 (nI_pos (by omega)) | omega
theorem c_assetAtX (R : Rep (u + 1) v X P M z h) {q : Int32} (hq : q < 0 ∨ nI (pa P) ≤ q) : Wx (d + 6) 22 0 (lv_args 0 [.ref (X.1 0), .int (q)]) [] h (x_th 7 (Rep u v X P M z)) := by
  show Wx _ _ 0 [(0, .ref (X.1 0)), (1, .int (q))] [] h _
  refine x_run 1 (pc' := 1) (lv' := [(0, .ref (X.1 0)), (1, .int (q))]) (st' := [.int (q)]) rfl ?_
  refine x_if (c := q < 0) (t := 12) rfl rfl (fun c1 => ?_) (fun c1 => ?_)
  · exact x_throw R rfl rfl rfl rfl rfl rfl rfl rfl (by omega)
  · refine x_run 2 (pc' := 6) (lv' := [(0, .ref (X.1 0)), (1, .int (q))]) (st' := [.ref (X.1 0), .int (q)]) rfl ?_
    refine x_get (v := .int (nI (pa P))) rfl rfl R.c0 rfl ?_
    refine x_if (c := q < nI (pa P)) (t := 22) rfl rfl (fun c2 => ?_) (fun c2 => ?_)
    · exact absurd hq (fun e => e.elim c1 (fun e => Int32.not_lt.mpr e c2))
    · exact x_throw R rfl rfl rfl rfl rfl rfl rfl rfl (by omega)
end GRD
