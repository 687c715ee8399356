section MOD1
variable {u v d : Nat} {X : xX} {P M : pP} {z : zZ} {h : mm_H} {i j : Nat}
theorem k_in (x lo hi : Int64) : Wx (d) 55 0 (lv_args 0 [.long (x), .long (lo), .long (hi)]) [] h (fun r0 => r0 = (.inl (some (.int (bI (g_in x lo hi)))), h)) := by
  show Wx _ _ 0 [(0, .long (x)), (2, .long (lo)), (4, .long (hi))] [] h _
  refine x_run 2 (pc' := 2) (lv' := [(0, .long (x)), (2, .long (lo)), (4, .long (hi))]) (st' := [.long (lo), .long (x)]) rfl ?_
  refine x_llt (t := 17) rfl rfl rfl (fun c1 => ?_) (fun c1 => ?_)
  · refine x_run 1 (pc' := 18) (lv' := [(0, .long (x)), (2, .long (lo)), (4, .long (hi))]) (st' := [.int (0)]) rfl ?_
    refine x_ret (v := some (.int (0))) rfl rfl rfl ?_
    simp [g_in, bI, c1]
  · refine x_run 2 (pc' := 9) (lv' := [(0, .long (x)), (2, .long (lo)), (4, .long (hi))]) (st' := [.long (hi), .long (x)]) rfl ?_
    refine x_lgt (t := 17) rfl rfl rfl (fun c2 => ?_) (fun c2 => ?_)
    · refine x_run 1 (pc' := 18) (lv' := [(0, .long (x)), (2, .long (lo)), (4, .long (hi))]) (st' := [.int (0)]) rfl ?_
      refine x_ret (v := some (.int (0))) rfl rfl rfl ?_
      simp [g_in, bI, c1, Int64.not_le.mpr c2]
    · refine x_run 2 (pc' := 18) (lv' := [(0, .long (x)), (2, .long (lo)), (4, .long (hi))]) (st' := [.int (1)]) rfl ?_
      refine x_ret (v := some (.int (1))) rfl rfl rfl ?_
      simp [g_in, bI, c1, Int64.not_lt.mp c2]
theorem k_isC (R : Rep u v X P M z h) (q : Int32) : Wx (d + 1) 56 0 (lv_args 0 [.ref (X.1 8), .int (q)]) [] h (fun r0 => r0 = (.inl (some (.int (bI (m_is (pn M) q)))), h)) := by
  show Wx _ _ 0 [(0, .ref (X.1 8)), (1, .int (q))] [] h _
  refine x_run 4 (pc' := 4) (lv' := [(0, .ref (X.1 8)), (1, .int (q))]) (st' := [.ref (X.1 8), .long (0), .long ((q).toInt64)]) rfl ?_
  refine x_get (v := .int (nI (pn M))) rfl rfl R.c8 rfl ?_
  refine x_run 3 (pc' := 10) (lv' := [(0, .ref (X.1 8)), (1, .int (q))]) (st' := [.long (((nI (pn M)) - 1).toInt64), .long (0), .long ((q).toInt64)]) rfl ?_
  refine x_rd (v := .int (bI (g_in ((q).toInt64) 0 (((nI (pn M)) - 1).toInt64)))) (k' := 55) (as := [.long ((q).toInt64), .long (0), .long (((nI (pn M)) - 1).toInt64)]) (rest := []) (x_isS (np := 3) rfl rfl rfl rfl rfl) (k_in _ _ _) ?_
  refine x_retb rfl rfl ?_
  rfl
theorem k_isCt (R : Rep u v X P M z h) (hi : i < pn M) : Wx (d + 1) 56 0 (lv_args 0 [.ref (X.1 8), .int (nI i)]) [] h (fun r0 => r0 = (.inl (some (.int (bI true))), h)) := by
  have a := R.m60
  have b := R.b20
  have e := k_isC (d := d) R (nI i)
  rw [m_is_t hi (by omega)] at e
  exact e
theorem k_isCf (R : Rep u v X P M z h) {q : Int32} (hq : q < 0 ∨ nI (pn M) ≤ q) : Wx (d + 1) 56 0 (lv_args 0 [.ref (X.1 8), .int q]) [] h (fun r0 => r0 = (.inl (some (.int (bI false))), h)) := by
  have a := R.m60
  have b := R.b20
  have e := k_isC (d := d) R q
  rw [m_is_f (by omega) hq] at e
  exact e
theorem k_isA (R : Rep u v X P M z h) (q : Int32) : Wx (d + 1) 57 0 (lv_args 0 [.ref (X.1 8), .int (q)]) [] h (fun r0 => r0 = (.inl (some (.int (bI (m_is (pa M) q)))), h)) := by
  show Wx _ _ 0 [(0, .ref (X.1 8)), (1, .int (q))] [] h _
  refine x_run 4 (pc' := 4) (lv' := [(0, .ref (X.1 8)), (1, .int (q))]) (st' := [.ref (X.1 8), .long (0), .long ((q).toInt64)]) rfl ?_
  refine x_get (v := .int (nI (pa M))) rfl rfl R.c8 rfl ?_
  refine x_run 3 (pc' := 10) (lv' := [(0, .ref (X.1 8)), (1, .int (q))]) (st' := [.long (((nI (pa M)) - 1).toInt64), .long (0), .long ((q).toInt64)]) rfl ?_
  refine x_rd (v := .int (bI (g_in ((q).toInt64) 0 (((nI (pa M)) - 1).toInt64)))) (k' := 55) (as := [.long ((q).toInt64), .long (0), .long (((nI (pa M)) - 1).toInt64)]) (rest := []) (x_isS (np := 3) rfl rfl rfl rfl rfl) (k_in _ _ _) ?_
  refine x_retb rfl rfl ?_
  rfl
theorem k_isAt (R : Rep u v X P M z h) (hi : i < pa M) : Wx (d + 1) 57 0 (lv_args 0 [.ref (X.1 8), .int (nI i)]) [] h (fun r0 => r0 = (.inl (some (.int (bI true))), h)) := by
  have a := R.m60
  have b := R.b20
  have e := k_isA (d := d) R (nI i)
  rw [m_is_t hi (by omega)] at e
  exact e
theorem k_isAf (R : Rep u v X P M z h) {q : Int32} (hq : q < 0 ∨ nI (pa M) ≤ q) : Wx (d + 1) 57 0 (lv_args 0 [.ref (X.1 8), .int q]) [] h (fun r0 => r0 = (.inl (some (.int (bI false))), h)) := by
  have a := R.m60
  have b := R.b20
  have e := k_isA (d := d) R q
  rw [m_is_f (by omega) hq] at e
  exact e
theorem k_isR (q : Int32) : Wx (d + 1) 58 0 (lv_args 0 [.int (q)]) [] h (fun r0 => r0 = (.inl (some (.int (bI (m_rk q)))), h)) := by
  show Wx _ _ 0 [(0, .int (q))] [] h _
  refine x_run 3 (pc' := 3) (lv' := [(0, .int (q))]) (st' := [.long (0), .long ((q).toInt64)]) rfl ?_
  refine x_ldc2 (x := 7) rfl rfl ?_
  refine x_rd (v := .int (bI (g_in ((q).toInt64) 0 7))) (k' := 55) (as := [.long ((q).toInt64), .long (0), .long (7)]) (rest := []) (x_isS (np := 3) rfl rfl rfl rfl rfl) (k_in _ _ _) ?_
  refine x_retb rfl rfl ?_
  rfl
theorem k_isRt {r : Nat} (hr : r < 8) : Wx (d + 1) 58 0 (lv_args 0 [.int (nI r)]) [] h (fun r0 => r0 = (.inl (some (.int (bI true))), h)) := by
  have e := k_isR (d := d) (h := h) (nI r)
  rw [m_rk_t hr] at e
  exact e
theorem k_isRf {q : Int32} (hq : q < 0 ∨ 8 ≤ q) : Wx (d + 1) 58 0 (lv_args 0 [.int q]) [] h (fun r0 => r0 = (.inl (some (.int (bI false))), h)) := by
  have e := k_isR (d := d) (h := h) q
  rw [m_rk_f hq] at e
  exact e
theorem k_note (R : Rep u (v + 1) X P M z h) (kk ow : Int32) (c : Int64) : Wx (d) 59 0 (lv_args 0 [.ref (X.1 8), .int (kk), .int (ow), .long (c)]) [] h (fun r => r.1 = .inl none ∧ Rep u v X P (p_note M kk ow c) z r.2) := by
  have jb := R.wM.2.2.1
  show Wx _ _ 0 [(0, .ref (X.1 8)), (1, .int (kk)), (2, .int (ow)), (3, .long (c))] [] h _
  refine x_run 2 (pc' := 2) (lv' := [(0, .ref (X.1 8)), (1, .int (kk)), (2, .int (ow)), (3, .long (c))]) (st' := [.long (0), .long (c)]) rfl ?_
  refine x_lne (t := 7) rfl rfl rfl (fun c1 => ?_) (fun c1 => ?_)
  · refine x_run 1 (pc' := 8) (lv' := [(0, .ref (X.1 8)), (1, .int (kk)), (2, .int (ow)), (3, .long (c))]) (st' := [.ref (X.1 8)]) rfl ?_
    refine x_get (v := .int (nI (pj M))) rfl rfl R.c8 rfl ?_
    refine x_run 1 (pc' := 14) (lv' := [(0, .ref (X.1 8)), (1, .int (kk)), (2, .int (ow)), (3, .long (c))]) (st' := [.int (3000), .int (nI (pj M))]) rfl ?_
    refine x_if (c := nI 3000 ≤ nI (pj M)) (t := 47) rfl rfl (fun c2 => ?_) (fun c2 => ?_)
    · replace c2 := (nI_leI (by omega) (by omega)).mp c2
      refine x_run 2 (pc' := 49) (lv' := [(0, .ref (X.1 8)), (1, .int (kk)), (2, .int (ow)), (3, .long (c))]) (st' := [.ref (X.1 8), .ref (X.1 8)]) rfl ?_
      refine x_get (v := .int (nI (pj M))) rfl rfl R.c8 rfl ?_
      refine x_run 2 (pc' := 54) (lv' := [(0, .ref (X.1 8)), (1, .int (kk)), (2, .int (ow)), (3, .long (c))]) (st' := [.int ((nI (pj M)) + (nI 1)), .ref (X.1 8)]) rfl ?_
      rw [nI_add]
      refine x_put rfl rfl R.c8 rfl ?_
      refine gen_h (A := Rep u v X P (sC M (pn M) (pa M) (pj M + 1)) z) (R.mCount) (fun h R => ?_)
      refine x_ret (v := none) rfl rfl rfl ⟨rfl, ?_⟩
      show Rep u v X P (p_note M kk ow c) z h
      rw [p_note_2 M kk ow c1 (by omega)]
      exact R
    · replace c2 := mt (nI_leI (by omega) (by omega)).mpr c2
      refine x_run 1 (pc' := 18) (lv' := [(0, .ref (X.1 8)), (1, .int (kk)), (2, .int (ow)), (3, .long (c))]) (st' := [.ref (X.1 8)]) rfl ?_
      refine x_get (v := .ref (X.1 21)) rfl rfl R.c8 rfl ?_
      refine x_run 1 (pc' := 22) (lv' := [(0, .ref (X.1 8)), (1, .int (kk)), (2, .int (ow)), (3, .long (c))]) (st' := [.ref (X.1 8), .ref (X.1 21)]) rfl ?_
      refine x_get (v := .int (nI (pj M))) rfl rfl R.c8 rfl ?_
      refine x_run 1 (pc' := 26) (lv' := [(0, .ref (X.1 8)), (1, .int (kk)), (2, .int (ow)), (3, .long (c))]) (st' := [.int (kk), .int (nI (pj M)), .ref (X.1 21)]) rfl ?_
      refine x_iast (j := pj M) rfl R.c21 (mm_idx_nI (by omega) (by omega)) ?_
      refine gen_h (A := Rep u (v + 1) X P (sI M 2 (pj M) (kk)) z) (R.mKind _) (fun h R => ?_)
      refine x_run 1 (pc' := 28) (lv' := [(0, .ref (X.1 8)), (1, .int (kk)), (2, .int (ow)), (3, .long (c))]) (st' := [.ref (X.1 8)]) rfl ?_
      refine x_get (v := .ref (X.1 22)) rfl rfl R.c8 rfl ?_
      refine x_run 1 (pc' := 32) (lv' := [(0, .ref (X.1 8)), (1, .int (kk)), (2, .int (ow)), (3, .long (c))]) (st' := [.ref (X.1 8), .ref (X.1 22)]) rfl ?_
      refine x_get (v := .int (nI (pj M))) rfl rfl R.c8 rfl ?_
      refine x_run 1 (pc' := 36) (lv' := [(0, .ref (X.1 8)), (1, .int (kk)), (2, .int (ow)), (3, .long (c))]) (st' := [.int (ow), .int (nI (pj M)), .ref (X.1 22)]) rfl ?_
      refine x_iast (j := pj M) rfl R.c22 (mm_idx_nI (by omega) (by omega)) ?_
      refine gen_h (A := Rep u (v + 1) X P (sI (sI M 2 (pj M) (kk)) 3 (pj M) (ow)) z) (R.mWhose _) (fun h R => ?_)
      refine x_run 1 (pc' := 38) (lv' := [(0, .ref (X.1 8)), (1, .int (kk)), (2, .int (ow)), (3, .long (c))]) (st' := [.ref (X.1 8)]) rfl ?_
      refine x_get (v := .ref (X.1 23)) rfl rfl R.c8 rfl ?_
      refine x_run 1 (pc' := 42) (lv' := [(0, .ref (X.1 8)), (1, .int (kk)), (2, .int (ow)), (3, .long (c))]) (st' := [.ref (X.1 8), .ref (X.1 23)]) rfl ?_
      refine x_get (v := .int (nI (pj M))) rfl rfl R.c8 rfl ?_
      refine x_run 1 (pc' := 46) (lv' := [(0, .ref (X.1 8)), (1, .int (kk)), (2, .int (ow)), (3, .long (c))]) (st' := [.long (c), .int (nI (pj M)), .ref (X.1 23)]) rfl ?_
      refine x_last (j := pj M) rfl R.c23 (mm_idx_nI (by omega) (by omega)) ?_
      refine gen_h (A := Rep u (v + 1) X P (sL (sI (sI M 2 (pj M) (kk)) 3 (pj M) (ow)) 6 (pj M) (c)) z) (R.mCents _) (fun h R => ?_)
      refine x_run 2 (pc' := 49) (lv' := [(0, .ref (X.1 8)), (1, .int (kk)), (2, .int (ow)), (3, .long (c))]) (st' := [.ref (X.1 8), .ref (X.1 8)]) rfl ?_
      refine x_get (v := .int (nI (pj M))) rfl rfl R.c8 rfl ?_
      refine x_run 2 (pc' := 54) (lv' := [(0, .ref (X.1 8)), (1, .int (kk)), (2, .int (ow)), (3, .long (c))]) (st' := [.int ((nI (pj M)) + (nI 1)), .ref (X.1 8)]) rfl ?_
      rw [nI_add]
      refine x_put rfl rfl R.c8 rfl ?_
      refine gen_h (A := Rep u v X P (sC (sL (sI (sI M 2 (pj M) (kk)) 3 (pj M) (ow)) 6 (pj M) (c)) (pn (sL (sI (sI M 2 (pj M) (kk)) 3 (pj M) (ow)) 6 (pj M) (c))) (pa (sL (sI (sI M 2 (pj M) (kk)) 3 (pj M) (ow)) 6 (pj M) (c))) (pj M + 1)) z) (R.mCount) (fun h R => ?_)
      refine x_ret (v := none) rfl rfl rfl ⟨rfl, ?_⟩
      show Rep u v X P (p_note M kk ow c) z h
      rw [p_note_1 M kk ow c1 (by omega)]
      exact R
  · refine x_ret (v := none) rfl rfl rfl ⟨rfl, ?_⟩
    show Rep u v X P (p_note M kk ow c) z h
    rw [p_note_0 M kk ow c1]
    exact R.less (Nat.le_refl _) (Nat.le_succ _)
theorem k_net (R : Rep u v X P M z h) (hi : i < pn M) : Wx (d) 60 0 (lv_args 0 [.ref (X.1 8), .int (nI i)]) [] h (fun r0 => r0 = (.inl (some (.long (p_net M i))), h)) := by
  have m60 := R.m60
  show Wx _ _ 0 [(0, .ref (X.1 8)), (1, .int (nI i))] [] h _
  refine x_run 1 (pc' := 1) (lv' := [(0, .ref (X.1 8)), (1, .int (nI i))]) (st' := [.ref (X.1 8)]) rfl ?_
  refine x_get (v := .ref (X.1 10)) rfl rfl R.c8 rfl ?_
  refine x_run 1 (pc' := 5) (lv' := [(0, .ref (X.1 8)), (1, .int (nI i))]) (st' := [.int (nI i), .ref (X.1 10)]) rfl ?_
  refine x_lald (j := i) rfl R.c10 (mm_idx_nI (by omega) (by omega)) ?_
  refine x_run 1 (pc' := 7) (lv' := [(0, .ref (X.1 8)), (1, .int (nI i))]) (st' := [.ref (X.1 8), .long (pL M 0 i)]) rfl ?_
  refine x_get (v := .ref (X.1 11)) rfl rfl R.c8 rfl ?_
  refine x_run 1 (pc' := 11) (lv' := [(0, .ref (X.1 8)), (1, .int (nI i))]) (st' := [.int (nI i), .ref (X.1 11), .long (pL M 0 i)]) rfl ?_
  refine x_lald (j := i) rfl R.c11 (mm_idx_nI (by omega) (by omega)) ?_
  refine x_run 2 (pc' := 14) (lv' := [(0, .ref (X.1 8)), (1, .int (nI i))]) (st' := [.ref (X.1 8), .long ((pL M 0 i) - (pL M 1 i))]) rfl ?_
  refine x_get (v := .ref (X.1 12)) rfl rfl R.c8 rfl ?_
  refine x_run 1 (pc' := 18) (lv' := [(0, .ref (X.1 8)), (1, .int (nI i))]) (st' := [.int (nI i), .ref (X.1 12), .long ((pL M 0 i) - (pL M 1 i))]) rfl ?_
  refine x_lald (j := i) rfl R.c12 (mm_idx_nI (by omega) (by omega)) ?_
  refine x_run 3 (pc' := 22) (lv' := [(2, .long (((pL M 0 i) - (pL M 1 i)) - (pL M 2 i))), (0, .ref (X.1 8)), (1, .int (nI i))]) (st' := [.ref (X.1 8)]) rfl ?_
  refine x_get (v := .ref (X.1 15)) rfl rfl R.c8 rfl ?_
  refine x_run 1 (pc' := 26) (lv' := [(2, .long (((pL M 0 i) - (pL M 1 i)) - (pL M 2 i))), (0, .ref (X.1 8)), (1, .int (nI i))]) (st' := [.int (nI i), .ref (X.1 15)]) rfl ?_
  refine x_iald (j := i) rfl R.c15 (mm_idx_nI (by omega) (by omega)) ?_
  refine x_run 1 (pc' := 28) (lv' := [(2, .long (((pL M 0 i) - (pL M 1 i)) - (pL M 2 i))), (0, .ref (X.1 8)), (1, .int (nI i))]) (st' := [.int (2), .int (pI M 0 i)]) rfl ?_
  refine x_if (c := pI M 0 i = 2) (t := 37) rfl rfl (fun c1 => ?_) (fun c1 => ?_)
  · refine x_run 2 (pc' := 42) (lv' := [(2, .long (((pL M 0 i) - (pL M 1 i)) - (pL M 2 i))), (0, .ref (X.1 8)), (1, .int (nI i))]) (st' := [.long (0)]) rfl ?_
    refine x_ret (v := some (.long (0))) rfl rfl rfl ?_
    first | (rw [p_net, if_pos c1]; done) | (rw [p_net, if_neg c1, if_neg (Int64.not_lt.mpr c2)]; done) | (rw [p_net, if_neg c1, if_pos (Int64.not_le.mp c2)]; done)
  · refine x_run 2 (pc' := 33) (lv' := [(2, .long (((pL M 0 i) - (pL M 1 i)) - (pL M 2 i))), (0, .ref (X.1 8)), (1, .int (nI i))]) (st' := [.long (0), .long (((pL M 0 i) - (pL M 1 i)) - (pL M 2 i))]) rfl ?_
    refine x_lge (t := 41) rfl rfl rfl (fun c2 => ?_) (fun c2 => ?_)
    · refine x_run 1 (pc' := 42) (lv' := [(2, .long (((pL M 0 i) - (pL M 1 i)) - (pL M 2 i))), (0, .ref (X.1 8)), (1, .int (nI i))]) (st' := [.long (((pL M 0 i) - (pL M 1 i)) - (pL M 2 i))]) rfl ?_
      refine x_ret (v := some (.long (((pL M 0 i) - (pL M 1 i)) - (pL M 2 i)))) rfl rfl rfl ?_
      first | (rw [p_net, if_pos c1]; done) | (rw [p_net, if_neg c1, if_neg (Int64.not_lt.mpr c2)]; done) | (rw [p_net, if_neg c1, if_pos (Int64.not_le.mp c2)]; done)
    · refine x_run 2 (pc' := 42) (lv' := [(2, .long (((pL M 0 i) - (pL M 1 i)) - (pL M 2 i))), (0, .ref (X.1 8)), (1, .int (nI i))]) (st' := [.long (0)]) rfl ?_
      refine x_ret (v := some (.long (0))) rfl rfl rfl ?_
      first | (rw [p_net, if_pos c1]; done) | (rw [p_net, if_neg c1, if_neg (Int64.not_lt.mpr c2)]; done) | (rw [p_net, if_neg c1, if_pos (Int64.not_le.mp c2)]; done)
theorem k_fresh (R : Rep u v X P M z h) (hi : i < pn M) : Wx (d) 63 0 (lv_args 0 [.ref (X.1 8), .int (nI i)]) [] h (fun r0 => r0 = (.inl (some (.int (bI (p_fresh M i)))), h)) := by
  have m60 := R.m60
  show Wx _ _ 0 [(0, .ref (X.1 8)), (1, .int (nI i))] [] h _
  refine x_run 1 (pc' := 1) (lv' := [(0, .ref (X.1 8)), (1, .int (nI i))]) (st' := [.ref (X.1 8)]) rfl ?_
  refine x_get (v := .ref (X.1 13)) rfl rfl R.c8 rfl ?_
  refine x_run 1 (pc' := 5) (lv' := [(0, .ref (X.1 8)), (1, .int (nI i))]) (st' := [.int (nI i), .ref (X.1 13)]) rfl ?_
  refine x_lald (j := i) rfl R.c13 (mm_idx_nI (by omega) (by omega)) ?_
  refine x_run 1 (pc' := 7) (lv' := [(0, .ref (X.1 8)), (1, .int (nI i))]) (st' := [.long (0), .long (pL M 3 i)]) rfl ?_
  refine x_lne (t := 26) rfl rfl rfl (fun c1 => ?_) (fun c1 => ?_)
  · refine x_run 1 (pc' := 27) (lv' := [(0, .ref (X.1 8)), (1, .int (nI i))]) (st' := [.int (0)]) rfl ?_
    refine x_ret (v := some (.int (0))) rfl rfl rfl ?_
    simp [p_fresh, bI, c1]
  · refine x_run 1 (pc' := 12) (lv' := [(0, .ref (X.1 8)), (1, .int (nI i))]) (st' := [.ref (X.1 8)]) rfl ?_
    refine x_get (v := .ref (X.1 14)) rfl rfl R.c8 rfl ?_
    refine x_run 1 (pc' := 16) (lv' := [(0, .ref (X.1 8)), (1, .int (nI i))]) (st' := [.int (nI i), .ref (X.1 14)]) rfl ?_
    refine x_lald (j := i) rfl R.c14 (mm_idx_nI (by omega) (by omega)) ?_
    refine x_run 1 (pc' := 18) (lv' := [(0, .ref (X.1 8)), (1, .int (nI i))]) (st' := [.long (0), .long (pL M 4 i)]) rfl ?_
    refine x_lne (t := 26) rfl rfl rfl (fun c2 => ?_) (fun c2 => ?_)
    · refine x_run 1 (pc' := 27) (lv' := [(0, .ref (X.1 8)), (1, .int (nI i))]) (st' := [.int (0)]) rfl ?_
      refine x_ret (v := some (.int (0))) rfl rfl rfl ?_
      simp [p_fresh, bI, c1, c2]
    · refine x_run 2 (pc' := 27) (lv' := [(0, .ref (X.1 8)), (1, .int (nI i))]) (st' := [.int (1)]) rfl ?_
      refine x_ret (v := some (.int (1))) rfl rfl rfl ?_
      simp [p_fresh, bI, c1, c2]
theorem k_due (R : Rep u v X P M z h) (hi : i < pn M) (q : Int32) : Wx (d + 1) 64 0 (lv_args 0 [.ref (X.1 8), .int (nI i), .int (q)]) [] h (fun r0 => r0 = (.inl (some (.long (p_due M i q))), h)) := by
  have m60 := R.m60
  show Wx _ _ 0 [(0, .ref (X.1 8)), (1, .int (nI i)), (2, .int (q))] [] h _
  refine x_run 2 (pc' := 2) (lv' := [(0, .ref (X.1 8)), (1, .int (nI i)), (2, .int (q))]) (st' := [.int (nI i), .ref (X.1 8)]) rfl ?_
  refine x_rd (v := .long (p_net M i)) (k' := 60) (as := [.ref (X.1 8), .int (nI i)]) (rest := []) (x_isV (np := 1) rfl rfl rfl R.c8 rfl) (k_net R hi) ?_
  refine x_run 3 (pc' := 8) (lv' := [(0, .ref (X.1 8)), (1, .int (nI i)), (2, .int (q))]) (st' := [.long ((p_net M i) * ((q).toInt64))]) rfl ?_
  refine x_ldc2 (x := 10000) rfl rfl ?_
  refine x_step (pc' := 12) (lv' := _) (st' := [.long (((p_net M i) * ((q).toInt64)) / 10000)]) (h' := _) rfl rfl ?_
  refine x_ret (v := some (.long (((p_net M i) * ((q).toInt64)) / 10000))) rfl rfl rfl ?_
  simp [p_due]
theorem k_dueOf (R : Rep u v X P M z h) (hi : i < pn M) : Wx (d + 2) 65 0 (lv_args 0 [.ref (X.1 8), .int (nI i)]) [] h (fun r0 => r0 = (.inl (some (.long (p_dueOf M i))), h)) := by
  have m60 := R.m60
  have r8 := R.wM.rk hi
  show Wx _ _ 0 [(0, .ref (X.1 8)), (1, .int (nI i))] [] h _
  refine x_run 3 (pc' := 3) (lv' := [(0, .ref (X.1 8)), (1, .int (nI i))]) (st' := [.ref (X.1 8), .int (nI i), .ref (X.1 8)]) rfl ?_
  refine x_get (v := .ref (X.1 20)) rfl rfl R.c8 rfl ?_
  refine x_run 1 (pc' := 7) (lv' := [(0, .ref (X.1 8)), (1, .int (nI i))]) (st' := [.ref (X.1 8), .ref (X.1 20), .int (nI i), .ref (X.1 8)]) rfl ?_
  refine x_get (v := .ref (X.1 9)) rfl rfl R.c8 rfl ?_
  refine x_run 1 (pc' := 11) (lv' := [(0, .ref (X.1 8)), (1, .int (nI i))]) (st' := [.int (nI i), .ref (X.1 9), .ref (X.1 20), .int (nI i), .ref (X.1 8)]) rfl ?_
  refine x_iald (j := i) rfl R.c9 (mm_idx_nI (by omega) (by omega)) ?_
  refine x_iald (j := pN M 0 i) rfl R.c20 (mm_idx_nI (by omega) (by omega)) ?_
  refine x_rd (v := .long (p_due M i (nI (pN M 3 (pN M 0 i))))) (k' := 64) (as := [.ref (X.1 8), .int (nI i), .int (nI (pN M 3 (pN M 0 i)))]) (rest := []) (x_isV (np := 2) rfl rfl rfl R.c8 rfl) (k_due R hi _) ?_
  refine x_ret (v := some (.long (p_due M i (nI (pN M 3 (pN M 0 i)))))) rfl rfl rfl ?_
  simp [p_dueOf]
theorem k_lack (R : Rep u v X P M z h) (hi : i < pn M) (q : Int32) : Wx (d + 2) 66 0 (lv_args 0 [.ref (X.1 8), .int (nI i), .int (q)]) [] h (fun r0 => r0 = (.inl (some (.long (p_lack M i q))), h)) := by
  have m60 := R.m60
  show Wx _ _ 0 [(0, .ref (X.1 8)), (1, .int (nI i)), (2, .int (q))] [] h _
  refine x_run 3 (pc' := 3) (lv' := [(0, .ref (X.1 8)), (1, .int (nI i)), (2, .int (q))]) (st' := [.int (q), .int (nI i), .ref (X.1 8)]) rfl ?_
  refine x_rd (v := .long (p_due M i q)) (k' := 64) (as := [.ref (X.1 8), .int (nI i), .int (q)]) (rest := []) (x_isV (np := 2) rfl rfl rfl R.c8 rfl) (k_due R hi _) ?_
  refine x_run 1 (pc' := 7) (lv' := [(0, .ref (X.1 8)), (1, .int (nI i)), (2, .int (q))]) (st' := [.ref (X.1 8), .long (p_due M i q)]) rfl ?_
  refine x_get (v := .ref (X.1 13)) rfl rfl R.c8 rfl ?_
  refine x_run 1 (pc' := 11) (lv' := [(0, .ref (X.1 8)), (1, .int (nI i)), (2, .int (q))]) (st' := [.int (nI i), .ref (X.1 13), .long (p_due M i q)]) rfl ?_
  refine x_lald (j := i) rfl R.c13 (mm_idx_nI (by omega) (by omega)) ?_
  refine x_run 2 (pc' := 14) (lv' := [(0, .ref (X.1 8)), (1, .int (nI i)), (2, .int (q))]) (st' := [.ref (X.1 8), .long ((p_due M i q) - (pL M 3 i))]) rfl ?_
  refine x_get (v := .ref (X.1 14)) rfl rfl R.c8 rfl ?_
  refine x_run 1 (pc' := 18) (lv' := [(0, .ref (X.1 8)), (1, .int (nI i)), (2, .int (q))]) (st' := [.int (nI i), .ref (X.1 14), .long ((p_due M i q) - (pL M 3 i))]) rfl ?_
  refine x_lald (j := i) rfl R.c14 (mm_idx_nI (by omega) (by omega)) ?_
  refine x_run 4 (pc' := 23) (lv' := [(3, .long (((p_due M i q) - (pL M 3 i)) - (pL M 4 i))), (0, .ref (X.1 8)), (1, .int (nI i)), (2, .int (q))]) (st' := [.long (0), .long (((p_due M i q) - (pL M 3 i)) - (pL M 4 i))]) rfl ?_
  refine x_lge (t := 31) rfl rfl rfl (fun c1 => ?_) (fun c1 => ?_)
  · refine x_run 1 (pc' := 32) (lv' := [(3, .long (((p_due M i q) - (pL M 3 i)) - (pL M 4 i))), (0, .ref (X.1 8)), (1, .int (nI i)), (2, .int (q))]) (st' := [.long (((p_due M i q) - (pL M 3 i)) - (pL M 4 i))]) rfl ?_
    refine x_ret (v := some (.long (((p_due M i q) - (pL M 3 i)) - (pL M 4 i)))) rfl rfl rfl ?_
    first | (rw [p_lack, if_neg (Int64.not_lt.mpr c1)]; done) | (rw [p_lack, if_pos (Int64.not_le.mp c1)]; done)
  · refine x_run 2 (pc' := 32) (lv' := [(3, .long (((p_due M i q) - (pL M 3 i)) - (pL M 4 i))), (0, .ref (X.1 8)), (1, .int (nI i)), (2, .int (q))]) (st' := [.long (0)]) rfl ?_
    refine x_ret (v := some (.long (0))) rfl rfl rfl ?_
    first | (rw [p_lack, if_neg (Int64.not_lt.mpr c1)]; done) | (rw [p_lack, if_pos (Int64.not_le.mp c1)]; done)
theorem k_hasL (R : Rep u v X P M z h) (hj : j < pa M) {c : Nat} (hc : c < pn M) : ∀ (m : Nat) (i : Nat) (b : Bool), i + m = pN M 1 j → Wx (d) 61 7 [(4, .int (nI (4 * j + i))), (3, .int (bI (b))), (0, .ref (X.1 8)), (1, .int (nI j)), (2, .int (nI c))] [] h (fun r0 => r0 = (.inl (some (.int (bI (b || p_hs (fun q => pN M 2 q) c m (4 * j + i))))), h)) := by
  intro m
  induction m with
  | zero =>
    intro i b hm
    have b20 := R.b20
    have mn := R.wM.mn hj
    refine x_run 4 (pc' := 12) (lv' := [(4, .int (nI (4 * j + i))), (3, .int (bI (b))), (0, .ref (X.1 8)), (1, .int (nI j)), (2, .int (nI c))]) (st' := [.int ((nI 4) * (nI j)), .int (nI (4 * j + i))]) rfl ?_
    rw [pk_mul]
    refine x_run 1 (pc' := 13) (lv' := [(4, .int (nI (4 * j + i))), (3, .int (bI (b))), (0, .ref (X.1 8)), (1, .int (nI j)), (2, .int (nI c))]) (st' := [.ref (X.1 8), .int (nI (4 * j)), .int (nI (4 * j + i))]) rfl ?_
    refine x_get (v := .ref (X.1 17)) rfl rfl R.c8 rfl ?_
    refine x_run 1 (pc' := 17) (lv' := [(4, .int (nI (4 * j + i))), (3, .int (bI (b))), (0, .ref (X.1 8)), (1, .int (nI j)), (2, .int (nI c))]) (st' := [.int (nI j), .ref (X.1 17), .int (nI (4 * j)), .int (nI (4 * j + i))]) rfl ?_
    refine x_iald (j := j) rfl R.c17 (mm_idx_nI (by omega) (by omega)) ?_
    refine x_run 1 (pc' := 19) (lv' := [(4, .int (nI (4 * j + i))), (3, .int (bI (b))), (0, .ref (X.1 8)), (1, .int (nI j)), (2, .int (nI c))]) (st' := [.int ((nI (4 * j)) + (nI (pN M 1 j))), .int (nI (4 * j + i))]) rfl ?_
    rw [nI_add]
    refine x_if (c := nI ((4 * j) + (pN M 1 j)) ≤ nI (4 * j + i)) (t := 49) rfl rfl (fun c1 => ?_) (fun c1 => ?_)
    · replace c1 := (nI_leI (by omega) (by omega)).mp c1
      refine x_run 1 (pc' := 50) (lv' := [(4, .int (nI (4 * j + i))), (3, .int (bI (b))), (0, .ref (X.1 8)), (1, .int (nI j)), (2, .int (nI c))]) (st' := [.int (bI (b))]) rfl ?_
      refine x_retb rfl rfl ?_
      simp [p_hs, c1]
    · replace c1 := mt (nI_leI (by omega) (by omega)).mpr c1
      omega
  | succ m ih =>
    intro i b hm
    have b20 := R.b20
    have mn := R.wM.mn hj
    have m60 := R.m60
    have hk : i < pN M 1 j := by omega
    have hd := R.wM.hd hj hk
    refine x_run 4 (pc' := 12) (lv' := [(4, .int (nI (4 * j + i))), (3, .int (bI (b))), (0, .ref (X.1 8)), (1, .int (nI j)), (2, .int (nI c))]) (st' := [.int ((nI 4) * (nI j)), .int (nI (4 * j + i))]) rfl ?_
    rw [pk_mul]
    refine x_run 1 (pc' := 13) (lv' := [(4, .int (nI (4 * j + i))), (3, .int (bI (b))), (0, .ref (X.1 8)), (1, .int (nI j)), (2, .int (nI c))]) (st' := [.ref (X.1 8), .int (nI (4 * j)), .int (nI (4 * j + i))]) rfl ?_
    refine x_get (v := .ref (X.1 17)) rfl rfl R.c8 rfl ?_
    refine x_run 1 (pc' := 17) (lv' := [(4, .int (nI (4 * j + i))), (3, .int (bI (b))), (0, .ref (X.1 8)), (1, .int (nI j)), (2, .int (nI c))]) (st' := [.int (nI j), .ref (X.1 17), .int (nI (4 * j)), .int (nI (4 * j + i))]) rfl ?_
    refine x_iald (j := j) rfl R.c17 (mm_idx_nI (by omega) (by omega)) ?_
    refine x_run 1 (pc' := 19) (lv' := [(4, .int (nI (4 * j + i))), (3, .int (bI (b))), (0, .ref (X.1 8)), (1, .int (nI j)), (2, .int (nI c))]) (st' := [.int ((nI (4 * j)) + (nI (pN M 1 j))), .int (nI (4 * j + i))]) rfl ?_
    rw [nI_add]
    refine x_if (c := nI ((4 * j) + (pN M 1 j)) ≤ nI (4 * j + i)) (t := 49) rfl rfl (fun c1 => ?_) (fun c1 => ?_)
    · replace c1 := (nI_leI (by omega) (by omega)).mp c1
      omega
    · replace c1 := mt (nI_leI (by omega) (by omega)).mpr c1
      refine x_run 1 (pc' := 23) (lv' := [(4, .int (nI (4 * j + i))), (3, .int (bI (b))), (0, .ref (X.1 8)), (1, .int (nI j)), (2, .int (nI c))]) (st' := [.int (bI (b))]) rfl ?_
      refine x_if (c := ¬ bI (b) = 0) (t := 37) rfl rfl (fun c2 => ?_) (fun c2 => ?_)
      · replace c2 := bI_n0 c2
        refine x_run 4 (pc' := 46) (lv' := [(4, .int (nI (4 * j + i) + 1)), (3, .int (1)), (0, .ref (X.1 8)), (1, .int (nI j)), (2, .int (nI c))]) (st' := []) rfl ?_
        rw [nI_1]
        refine x_run 1 (pc' := 7) (lv' := [(4, .int (nI (4 * j + i + 1))), (3, .int (1)), (0, .ref (X.1 8)), (1, .int (nI j)), (2, .int (nI c))]) (st' := []) rfl ?_
        refine x_lv (a := [(4, .int (nI (4 * j + i + 1))), (3, .int (1)), (0, .ref (X.1 8)), (1, .int (nI j)), (2, .int (nI c))]) rfl rfl ⟨rfl, rfl, rfl, rfl, rfl, trivial⟩ ?_
        rw [show (b || p_hs (fun q => pN M 2 q) c (m + 1) (4 * j + i)) = (true || p_hs (fun q => pN M 2 q) c m (4 * j + i + 1)) from by simp [p_hs, c1, c2]]
        exact ih (i + 1) true (by omega)
      · replace c2 := bI_0.mp (Classical.not_not.mp c2)
        refine x_run 1 (pc' := 27) (lv' := [(4, .int (nI (4 * j + i))), (3, .int (bI (b))), (0, .ref (X.1 8)), (1, .int (nI j)), (2, .int (nI c))]) (st' := [.ref (X.1 8)]) rfl ?_
        refine x_get (v := .ref (X.1 18)) rfl rfl R.c8 rfl ?_
        refine x_run 1 (pc' := 32) (lv' := [(4, .int (nI (4 * j + i))), (3, .int (bI (b))), (0, .ref (X.1 8)), (1, .int (nI j)), (2, .int (nI c))]) (st' := [.int (nI (4 * j + i)), .ref (X.1 18)]) rfl ?_
        refine x_iald (j := 4 * j + i) rfl R.c18 (mm_idx_nI (by omega) (by omega)) ?_
        refine x_run 1 (pc' := 34) (lv' := [(4, .int (nI (4 * j + i))), (3, .int (bI (b))), (0, .ref (X.1 8)), (1, .int (nI j)), (2, .int (nI c))]) (st' := [.int (nI c), .int (nI (pN M 2 (4 * j + i)))]) rfl ?_
        refine x_if (c := ¬ nI (pN M 2 (4 * j + i)) = nI c) (t := 41) rfl rfl (fun c3 => ?_) (fun c3 => ?_)
        · replace c3 := mt (nI_eq (by omega) (by omega)).mpr c3
          refine x_run 3 (pc' := 46) (lv' := [(4, .int (nI (4 * j + i) + 1)), (3, .int (0)), (0, .ref (X.1 8)), (1, .int (nI j)), (2, .int (nI c))]) (st' := []) rfl ?_
          rw [nI_1]
          refine x_run 1 (pc' := 7) (lv' := [(4, .int (nI (4 * j + i + 1))), (3, .int (0)), (0, .ref (X.1 8)), (1, .int (nI j)), (2, .int (nI c))]) (st' := []) rfl ?_
          refine x_lv (a := [(4, .int (nI (4 * j + i + 1))), (3, .int (0)), (0, .ref (X.1 8)), (1, .int (nI j)), (2, .int (nI c))]) rfl rfl ⟨rfl, rfl, rfl, rfl, rfl, trivial⟩ ?_
          rw [show (b || p_hs (fun q => pN M 2 q) c (m + 1) (4 * j + i)) = (false || p_hs (fun q => pN M 2 q) c m (4 * j + i + 1)) from by simp [p_hs, c1, c2, c3]]
          exact ih (i + 1) false (by omega)
        · replace c3 := (nI_eq (by omega) (by omega)).mp (Classical.not_not.mp c3)
          refine x_run 4 (pc' := 46) (lv' := [(4, .int (nI (4 * j + i) + 1)), (3, .int (1)), (0, .ref (X.1 8)), (1, .int (nI j)), (2, .int (nI c))]) (st' := []) rfl ?_
          rw [nI_1]
          refine x_run 1 (pc' := 7) (lv' := [(4, .int (nI (4 * j + i + 1))), (3, .int (1)), (0, .ref (X.1 8)), (1, .int (nI j)), (2, .int (nI c))]) (st' := []) rfl ?_
          refine x_lv (a := [(4, .int (nI (4 * j + i + 1))), (3, .int (1)), (0, .ref (X.1 8)), (1, .int (nI j)), (2, .int (nI c))]) rfl rfl ⟨rfl, rfl, rfl, rfl, rfl, trivial⟩ ?_
          rw [show (b || p_hs (fun q => pN M 2 q) c (m + 1) (4 * j + i)) = (true || p_hs (fun q => pN M 2 q) c m (4 * j + i + 1)) from by simp [p_hs, c1, c2, c3]]
          exact ih (i + 1) true (by omega)
theorem k_has (R : Rep u v X P M z h) (hj : j < pa M) {c : Nat} (hc : c < pn M) : Wx (d) 61 0 (lv_args 0 [.ref (X.1 8), .int (nI j), .int (nI c)]) [] h (fun r0 => r0 = (.inl (some (.int (bI (p_hs (fun q => pN M 2 q) c (pN M 1 j) (4 * j))))), h)) := by
  have b20 := R.b20
  show Wx _ _ 0 [(0, .ref (X.1 8)), (1, .int (nI j)), (2, .int (nI c))] [] h _
  refine x_run 5 (pc' := 5) (lv' := [(3, .int (0)), (0, .ref (X.1 8)), (1, .int (nI j)), (2, .int (nI c))]) (st' := [.int ((nI 4) * (nI j))]) rfl ?_
  rw [pk_mul]
  refine x_run 1 (pc' := 7) (lv' := [(4, .int (nI (4 * j))), (3, .int (0)), (0, .ref (X.1 8)), (1, .int (nI j)), (2, .int (nI c))]) (st' := []) rfl ?_
  refine x_lv (a := [(4, .int (nI (4 * j))), (3, .int (0)), (0, .ref (X.1 8)), (1, .int (nI j)), (2, .int (nI c))]) rfl rfl ⟨rfl, rfl, rfl, rfl, rfl, trivial⟩ ?_
  have e := k_hasL (d := d) R hj hc (pN M 1 j) 0 false (by omega)
  rw [Bool.false_or] at e
  exact e
theorem k_openL (R : Rep u v X P M z h) {c : Nat} (hc : c < pn M) : ∀ (m : Nat) (j : Nat) (b : Bool), j + m = pa M → Wx (d + 1) 62 18 [(3, .int (nI j)), (2, .int (bI (b))), (0, .ref (X.1 8)), (1, .int (nI c))] [] h (fun r0 => r0 = (.inl (some (.int (bI ((b || p_op (fun q => pN M 2 q) (fun j => pN M 1 j) (fun j => pI M 1 j) c m j) && !decide (pI M 0 c = 2))))), h)) := by
  intro m
  induction m with
  | zero =>
    intro j b hm
    have m60 := R.m60
    have b20 := R.b20
    refine x_run 2 (pc' := 20) (lv' := [(3, .int (nI j)), (2, .int (bI (b))), (0, .ref (X.1 8)), (1, .int (nI c))]) (st' := [.ref (X.1 8), .int (nI j)]) rfl ?_
    refine x_get (v := .int (nI (pa M))) rfl rfl R.c8 rfl ?_
    refine x_if (c := nI (pa M) ≤ nI j) (t := 60) rfl rfl (fun c1 => ?_) (fun c1 => ?_)
    · replace c1 := (nI_leI (by omega) (by omega)).mp c1
      refine x_run 1 (pc' := 61) (lv' := [(3, .int (nI j)), (2, .int (bI (b))), (0, .ref (X.1 8)), (1, .int (nI c))]) (st' := [.int (bI (b))]) rfl ?_
      refine x_if (c := bI (b) = 0) (t := 78) rfl rfl (fun c2 => ?_) (fun c2 => ?_)
      · replace c2 := bI_0.mp c2
        refine x_run 1 (pc' := 79) (lv' := [(3, .int (nI j)), (2, .int (bI (b))), (0, .ref (X.1 8)), (1, .int (nI c))]) (st' := [.int (0)]) rfl ?_
        refine x_ret (v := some (.int (0))) rfl rfl rfl ?_
        simp [p_op, bI, c1, c2]
      · replace c2 := bI_n0 c2
        refine x_run 1 (pc' := 65) (lv' := [(3, .int (nI j)), (2, .int (bI (b))), (0, .ref (X.1 8)), (1, .int (nI c))]) (st' := [.ref (X.1 8)]) rfl ?_
        refine x_get (v := .ref (X.1 15)) rfl rfl R.c8 rfl ?_
        refine x_run 1 (pc' := 69) (lv' := [(3, .int (nI j)), (2, .int (bI (b))), (0, .ref (X.1 8)), (1, .int (nI c))]) (st' := [.int (nI c), .ref (X.1 15)]) rfl ?_
        refine x_iald (j := c) rfl R.c15 (mm_idx_nI (by omega) (by omega)) ?_
        refine x_run 1 (pc' := 71) (lv' := [(3, .int (nI j)), (2, .int (bI (b))), (0, .ref (X.1 8)), (1, .int (nI c))]) (st' := [.int (2), .int (pI M 0 c)]) rfl ?_
        refine x_if (c := pI M 0 c = 2) (t := 78) rfl rfl (fun c3 => ?_) (fun c3 => ?_)
        · refine x_run 1 (pc' := 79) (lv' := [(3, .int (nI j)), (2, .int (bI (b))), (0, .ref (X.1 8)), (1, .int (nI c))]) (st' := [.int (0)]) rfl ?_
          refine x_ret (v := some (.int (0))) rfl rfl rfl ?_
          simp [p_op, bI, c1, c2, c3]
        · refine x_run 2 (pc' := 79) (lv' := [(3, .int (nI j)), (2, .int (bI (b))), (0, .ref (X.1 8)), (1, .int (nI c))]) (st' := [.int (1)]) rfl ?_
          refine x_ret (v := some (.int (1))) rfl rfl rfl ?_
          simp [p_op, bI, c1, c2, c3]
    · replace c1 := mt (nI_leI (by omega) (by omega)).mpr c1
      omega
  | succ m ih =>
    intro j b hm
    have m60 := R.m60
    have b20 := R.b20
    have hj : j < pa M := by omega
    refine x_run 2 (pc' := 20) (lv' := [(3, .int (nI j)), (2, .int (bI (b))), (0, .ref (X.1 8)), (1, .int (nI c))]) (st' := [.ref (X.1 8), .int (nI j)]) rfl ?_
    refine x_get (v := .int (nI (pa M))) rfl rfl R.c8 rfl ?_
    refine x_if (c := nI (pa M) ≤ nI j) (t := 60) rfl rfl (fun c1 => ?_) (fun c1 => ?_)
    · replace c1 := (nI_leI (by omega) (by omega)).mp c1
      omega
    · replace c1 := mt (nI_leI (by omega) (by omega)).mpr c1
      refine x_run 1 (pc' := 27) (lv' := [(3, .int (nI j)), (2, .int (bI (b))), (0, .ref (X.1 8)), (1, .int (nI c))]) (st' := [.int (bI (b))]) rfl ?_
      refine x_if (c := ¬ bI (b) = 0) (t := 48) rfl rfl (fun c2 => ?_) (fun c2 => ?_)
      · replace c2 := bI_n0 c2
        refine x_run 4 (pc' := 57) (lv' := [(3, .int (nI j + 1)), (2, .int (1)), (0, .ref (X.1 8)), (1, .int (nI c))]) (st' := []) rfl ?_
        rw [nI_1]
        refine x_run 1 (pc' := 18) (lv' := [(3, .int (nI (j + 1))), (2, .int (1)), (0, .ref (X.1 8)), (1, .int (nI c))]) (st' := []) rfl ?_
        refine x_lv (a := [(3, .int (nI (j + 1))), (2, .int (1)), (0, .ref (X.1 8)), (1, .int (nI c))]) rfl rfl ⟨rfl, rfl, rfl, rfl, trivial⟩ ?_
        rw [show (b || p_op (fun q => pN M 2 q) (fun j => pN M 1 j) (fun j => pI M 1 j) c (m + 1) j) = (true || p_op (fun q => pN M 2 q) (fun j => pN M 1 j) (fun j => pI M 1 j) c m (j + 1)) from by simp [p_op, c1, c2]]
        exact ih (j + 1) true (by omega)
      · replace c2 := bI_0.mp (Classical.not_not.mp c2)
        refine x_run 1 (pc' := 31) (lv' := [(3, .int (nI j)), (2, .int (bI (b))), (0, .ref (X.1 8)), (1, .int (nI c))]) (st' := [.ref (X.1 8)]) rfl ?_
        refine x_get (v := .ref (X.1 16)) rfl rfl R.c8 rfl ?_
        refine x_run 1 (pc' := 35) (lv' := [(3, .int (nI j)), (2, .int (bI (b))), (0, .ref (X.1 8)), (1, .int (nI c))]) (st' := [.int (nI j), .ref (X.1 16)]) rfl ?_
        refine x_zald (j := j) rfl R.c16 (mm_idx_nI (by omega) (by omega)) ?_
        refine x_if (c := ¬ pI M 1 j = 0) (t := 52) rfl rfl (fun c3 => ?_) (fun c3 => ?_)
        · refine x_run 3 (pc' := 57) (lv' := [(3, .int (nI j + 1)), (2, .int (0)), (0, .ref (X.1 8)), (1, .int (nI c))]) (st' := []) rfl ?_
          rw [nI_1]
          refine x_run 1 (pc' := 18) (lv' := [(3, .int (nI (j + 1))), (2, .int (0)), (0, .ref (X.1 8)), (1, .int (nI c))]) (st' := []) rfl ?_
          refine x_lv (a := [(3, .int (nI (j + 1))), (2, .int (0)), (0, .ref (X.1 8)), (1, .int (nI c))]) rfl rfl ⟨rfl, rfl, rfl, rfl, trivial⟩ ?_
          rw [show (b || p_op (fun q => pN M 2 q) (fun j => pN M 1 j) (fun j => pI M 1 j) c (m + 1) j) = (false || p_op (fun q => pN M 2 q) (fun j => pN M 1 j) (fun j => pI M 1 j) c m (j + 1)) from by simp [p_op, c1, c2, c3]]
          exact ih (j + 1) false (by omega)
        · replace c3 := Classical.not_not.mp c3
          refine x_run 3 (pc' := 42) (lv' := [(3, .int (nI j)), (2, .int (bI (b))), (0, .ref (X.1 8)), (1, .int (nI c))]) (st' := [.int (nI c), .int (nI j), .ref (X.1 8)]) rfl ?_
          refine x_rd (v := .int (bI (p_hs (fun q => pN M 2 q) c (pN M 1 j) (4 * j)))) (k' := 61) (as := [.ref (X.1 8), .int (nI j), .int (nI c)]) (rest := []) (x_isV (np := 2) rfl rfl rfl R.c8 rfl) (k_has R hj hc) ?_
          refine x_if (c := bI (p_hs (fun q => pN M 2 q) c (pN M 1 j) (4 * j)) = 0) (t := 52) rfl rfl (fun c4 => ?_) (fun c4 => ?_)
          · replace c4 := bI_0.mp c4
            refine x_run 3 (pc' := 57) (lv' := [(3, .int (nI j + 1)), (2, .int (0)), (0, .ref (X.1 8)), (1, .int (nI c))]) (st' := []) rfl ?_
            rw [nI_1]
            refine x_run 1 (pc' := 18) (lv' := [(3, .int (nI (j + 1))), (2, .int (0)), (0, .ref (X.1 8)), (1, .int (nI c))]) (st' := []) rfl ?_
            refine x_lv (a := [(3, .int (nI (j + 1))), (2, .int (0)), (0, .ref (X.1 8)), (1, .int (nI c))]) rfl rfl ⟨rfl, rfl, rfl, rfl, trivial⟩ ?_
            rw [show (b || p_op (fun q => pN M 2 q) (fun j => pN M 1 j) (fun j => pI M 1 j) c (m + 1) j) = (false || p_op (fun q => pN M 2 q) (fun j => pN M 1 j) (fun j => pI M 1 j) c m (j + 1)) from by simp [p_op, c1, c2, c3, c4]]
            exact ih (j + 1) false (by omega)
          · replace c4 := bI_n0 c4
            refine x_run 4 (pc' := 57) (lv' := [(3, .int (nI j + 1)), (2, .int (1)), (0, .ref (X.1 8)), (1, .int (nI c))]) (st' := []) rfl ?_
            rw [nI_1]
            refine x_run 1 (pc' := 18) (lv' := [(3, .int (nI (j + 1))), (2, .int (1)), (0, .ref (X.1 8)), (1, .int (nI c))]) (st' := []) rfl ?_
            refine x_lv (a := [(3, .int (nI (j + 1))), (2, .int (1)), (0, .ref (X.1 8)), (1, .int (nI c))]) rfl rfl ⟨rfl, rfl, rfl, rfl, trivial⟩ ?_
            rw [show (b || p_op (fun q => pN M 2 q) (fun j => pN M 1 j) (fun j => pI M 1 j) c (m + 1) j) = (true || p_op (fun q => pN M 2 q) (fun j => pN M 1 j) (fun j => pI M 1 j) c m (j + 1)) from by simp [p_op, c1, c2, c3, c4]]
            exact ih (j + 1) true (by omega)
theorem k_open (R : Rep u v X P M z h) {c : Nat} (hc : c < pn M) : Wx (d + 1) 62 0 (lv_args 0 [.ref (X.1 8), .int (nI c)]) [] h (fun r0 => r0 = (.inl (some (.int (bI (p_openM M c)))), h)) := by
  have m60 := R.m60
  show Wx _ _ 0 [(0, .ref (X.1 8)), (1, .int (nI c))] [] h _
  refine x_run 1 (pc' := 1) (lv' := [(0, .ref (X.1 8)), (1, .int (nI c))]) (st' := [.ref (X.1 8)]) rfl ?_
  refine x_get (v := .ref (X.1 15)) rfl rfl R.c8 rfl ?_
  refine x_run 1 (pc' := 5) (lv' := [(0, .ref (X.1 8)), (1, .int (nI c))]) (st' := [.int (nI c), .ref (X.1 15)]) rfl ?_
  refine x_iald (j := c) rfl R.c15 (mm_idx_nI (by omega) (by omega)) ?_
  refine x_run 1 (pc' := 7) (lv' := [(0, .ref (X.1 8)), (1, .int (nI c))]) (st' := [.int (1), .int (pI M 0 c)]) rfl ?_
  refine x_if (c := ¬ pI M 0 c = 1) (t := 14) rfl rfl (fun c1 => ?_) (fun c1 => ?_)
  · refine x_run 4 (pc' := 18) (lv' := [(3, .int (0)), (2, .int (0)), (0, .ref (X.1 8)), (1, .int (nI c))]) (st' := []) rfl ?_
    refine x_lv (a := [(3, .int (0)), (2, .int (0)), (0, .ref (X.1 8)), (1, .int (nI c))]) rfl rfl ⟨rfl, rfl, rfl, rfl, trivial⟩ ?_
    have e := k_openL (d := d) R hc (pa M) 0 false (by omega)
    rw [show p_openM M c = ((false || p_op (fun q => pN M 2 q) (fun j => pN M 1 j) (fun j => pI M 1 j) c (pa M) 0) && !decide (pI M 0 c = 2)) from by simp [p_openM, c1]]
    exact e
  · replace c1 := Classical.not_not.mp c1
    refine x_run 5 (pc' := 18) (lv' := [(3, .int (0)), (2, .int (1)), (0, .ref (X.1 8)), (1, .int (nI c))]) (st' := []) rfl ?_
    refine x_lv (a := [(3, .int (0)), (2, .int (1)), (0, .ref (X.1 8)), (1, .int (nI c))]) rfl rfl ⟨rfl, rfl, rfl, rfl, trivial⟩ ?_
    have e := k_openL (d := d) R hc (pa M) 0 true (by omega)
    rw [show p_openM M c = ((true || p_op (fun q => pN M 2 q) (fun j => pN M 1 j) (fun j => pI M 1 j) c (pa M) 0) && !decide (pI M 0 c = 2)) from by simp [p_openM, c1]]
    exact e
theorem k_contL (R : Rep u v X P M z h) (hj : j < pa M) : ∀ (m : Nat) (i : Nat) (b : Bool), i + m = pN M 1 j → Wx (d) 74 6 [(3, .int (nI (4 * j + i))), (2, .int (bI (b))), (0, .ref (X.1 8)), (1, .int (nI j))] [] h (fun r0 => r0 = (.inl (some (.int (bI (b || p_cont M j m i)))), h)) := by
  intro m
  induction m with
  | zero =>
    intro i b hm
    have b20 := R.b20
    have mn := R.wM.mn hj
    refine x_run 4 (pc' := 10) (lv' := [(3, .int (nI (4 * j + i))), (2, .int (bI (b))), (0, .ref (X.1 8)), (1, .int (nI j))]) (st' := [.int ((nI 4) * (nI j)), .int (nI (4 * j + i))]) rfl ?_
    rw [pk_mul]
    refine x_run 1 (pc' := 11) (lv' := [(3, .int (nI (4 * j + i))), (2, .int (bI (b))), (0, .ref (X.1 8)), (1, .int (nI j))]) (st' := [.ref (X.1 8), .int (nI (4 * j)), .int (nI (4 * j + i))]) rfl ?_
    refine x_get (v := .ref (X.1 17)) rfl rfl R.c8 rfl ?_
    refine x_run 1 (pc' := 15) (lv' := [(3, .int (nI (4 * j + i))), (2, .int (bI (b))), (0, .ref (X.1 8)), (1, .int (nI j))]) (st' := [.int (nI j), .ref (X.1 17), .int (nI (4 * j)), .int (nI (4 * j + i))]) rfl ?_
    refine x_iald (j := j) rfl R.c17 (mm_idx_nI (by omega) (by omega)) ?_
    refine x_run 1 (pc' := 17) (lv' := [(3, .int (nI (4 * j + i))), (2, .int (bI (b))), (0, .ref (X.1 8)), (1, .int (nI j))]) (st' := [.int ((nI (4 * j)) + (nI (pN M 1 j))), .int (nI (4 * j + i))]) rfl ?_
    rw [nI_add]
    refine x_if (c := nI ((4 * j) + (pN M 1 j)) ≤ nI (4 * j + i)) (t := 51) rfl rfl (fun c1 => ?_) (fun c1 => ?_)
    · replace c1 := (nI_leI (by omega) (by omega)).mp c1
      refine x_run 1 (pc' := 52) (lv' := [(3, .int (nI (4 * j + i))), (2, .int (bI (b))), (0, .ref (X.1 8)), (1, .int (nI j))]) (st' := [.int (bI (b))]) rfl ?_
      refine x_retb rfl rfl ?_
      simp [p_cont, c1]
    · replace c1 := mt (nI_leI (by omega) (by omega)).mpr c1
      omega
  | succ m ih =>
    intro i b hm
    have b20 := R.b20
    have mn := R.wM.mn hj
    have m60 := R.m60
    have hk : i < pN M 1 j := by omega
    have hd := R.wM.hd hj hk
    refine x_run 4 (pc' := 10) (lv' := [(3, .int (nI (4 * j + i))), (2, .int (bI (b))), (0, .ref (X.1 8)), (1, .int (nI j))]) (st' := [.int ((nI 4) * (nI j)), .int (nI (4 * j + i))]) rfl ?_
    rw [pk_mul]
    refine x_run 1 (pc' := 11) (lv' := [(3, .int (nI (4 * j + i))), (2, .int (bI (b))), (0, .ref (X.1 8)), (1, .int (nI j))]) (st' := [.ref (X.1 8), .int (nI (4 * j)), .int (nI (4 * j + i))]) rfl ?_
    refine x_get (v := .ref (X.1 17)) rfl rfl R.c8 rfl ?_
    refine x_run 1 (pc' := 15) (lv' := [(3, .int (nI (4 * j + i))), (2, .int (bI (b))), (0, .ref (X.1 8)), (1, .int (nI j))]) (st' := [.int (nI j), .ref (X.1 17), .int (nI (4 * j)), .int (nI (4 * j + i))]) rfl ?_
    refine x_iald (j := j) rfl R.c17 (mm_idx_nI (by omega) (by omega)) ?_
    refine x_run 1 (pc' := 17) (lv' := [(3, .int (nI (4 * j + i))), (2, .int (bI (b))), (0, .ref (X.1 8)), (1, .int (nI j))]) (st' := [.int ((nI (4 * j)) + (nI (pN M 1 j))), .int (nI (4 * j + i))]) rfl ?_
    rw [nI_add]
    refine x_if (c := nI ((4 * j) + (pN M 1 j)) ≤ nI (4 * j + i)) (t := 51) rfl rfl (fun c1 => ?_) (fun c1 => ?_)
    · replace c1 := (nI_leI (by omega) (by omega)).mp c1
      omega
    · replace c1 := mt (nI_leI (by omega) (by omega)).mpr c1
      refine x_run 1 (pc' := 21) (lv' := [(3, .int (nI (4 * j + i))), (2, .int (bI (b))), (0, .ref (X.1 8)), (1, .int (nI j))]) (st' := [.int (bI (b))]) rfl ?_
      refine x_if (c := ¬ bI (b) = 0) (t := 39) rfl rfl (fun c2 => ?_) (fun c2 => ?_)
      · replace c2 := bI_n0 c2
        refine x_run 4 (pc' := 48) (lv' := [(3, .int (nI (4 * j + i) + 1)), (2, .int (1)), (0, .ref (X.1 8)), (1, .int (nI j))]) (st' := []) rfl ?_
        rw [nI_1]
        refine x_run 1 (pc' := 6) (lv' := [(3, .int (nI (4 * j + i + 1))), (2, .int (1)), (0, .ref (X.1 8)), (1, .int (nI j))]) (st' := []) rfl ?_
        refine x_lv (a := [(3, .int (nI (4 * j + i + 1))), (2, .int (1)), (0, .ref (X.1 8)), (1, .int (nI j))]) rfl rfl ⟨rfl, rfl, rfl, rfl, trivial⟩ ?_
        rw [show (b || p_cont M j (m + 1) i) = (true || p_cont M j m (i + 1)) from by simp [p_cont, c1, c2]]
        exact ih (i + 1) true (by omega)
      · replace c2 := bI_0.mp (Classical.not_not.mp c2)
        refine x_run 1 (pc' := 25) (lv' := [(3, .int (nI (4 * j + i))), (2, .int (bI (b))), (0, .ref (X.1 8)), (1, .int (nI j))]) (st' := [.ref (X.1 8)]) rfl ?_
        refine x_get (v := .ref (X.1 15)) rfl rfl R.c8 rfl ?_
        refine x_run 1 (pc' := 29) (lv' := [(3, .int (nI (4 * j + i))), (2, .int (bI (b))), (0, .ref (X.1 8)), (1, .int (nI j))]) (st' := [.ref (X.1 8), .ref (X.1 15)]) rfl ?_
        refine x_get (v := .ref (X.1 18)) rfl rfl R.c8 rfl ?_
        refine x_run 1 (pc' := 33) (lv' := [(3, .int (nI (4 * j + i))), (2, .int (bI (b))), (0, .ref (X.1 8)), (1, .int (nI j))]) (st' := [.int (nI (4 * j + i)), .ref (X.1 18), .ref (X.1 15)]) rfl ?_
        refine x_iald (j := 4 * j + i) rfl R.c18 (mm_idx_nI (by omega) (by omega)) ?_
        refine x_iald (j := pN M 2 (4 * j + i)) rfl R.c15 (mm_idx_nI (by omega) (by omega)) ?_
        refine x_run 1 (pc' := 36) (lv' := [(3, .int (nI (4 * j + i))), (2, .int (bI (b))), (0, .ref (X.1 8)), (1, .int (nI j))]) (st' := [.int (1), .int (pI M 0 (pN M 2 (4 * j + i)))]) rfl ?_
        refine x_if (c := ¬ pI M 0 (pN M 2 (4 * j + i)) = 1) (t := 43) rfl rfl (fun c3 => ?_) (fun c3 => ?_)
        · refine x_run 3 (pc' := 48) (lv' := [(3, .int (nI (4 * j + i) + 1)), (2, .int (0)), (0, .ref (X.1 8)), (1, .int (nI j))]) (st' := []) rfl ?_
          rw [nI_1]
          refine x_run 1 (pc' := 6) (lv' := [(3, .int (nI (4 * j + i + 1))), (2, .int (0)), (0, .ref (X.1 8)), (1, .int (nI j))]) (st' := []) rfl ?_
          refine x_lv (a := [(3, .int (nI (4 * j + i + 1))), (2, .int (0)), (0, .ref (X.1 8)), (1, .int (nI j))]) rfl rfl ⟨rfl, rfl, rfl, rfl, trivial⟩ ?_
          rw [show (b || p_cont M j (m + 1) i) = (false || p_cont M j m (i + 1)) from by simp [p_cont, c1, c2, c3]]
          exact ih (i + 1) false (by omega)
        · replace c3 := Classical.not_not.mp c3
          refine x_run 4 (pc' := 48) (lv' := [(3, .int (nI (4 * j + i) + 1)), (2, .int (1)), (0, .ref (X.1 8)), (1, .int (nI j))]) (st' := []) rfl ?_
          rw [nI_1]
          refine x_run 1 (pc' := 6) (lv' := [(3, .int (nI (4 * j + i + 1))), (2, .int (1)), (0, .ref (X.1 8)), (1, .int (nI j))]) (st' := []) rfl ?_
          refine x_lv (a := [(3, .int (nI (4 * j + i + 1))), (2, .int (1)), (0, .ref (X.1 8)), (1, .int (nI j))]) rfl rfl ⟨rfl, rfl, rfl, rfl, trivial⟩ ?_
          rw [show (b || p_cont M j (m + 1) i) = (true || p_cont M j m (i + 1)) from by simp [p_cont, c1, c2, c3]]
          exact ih (i + 1) true (by omega)
theorem k_cont (R : Rep u v X P M z h) (hj : j < pa M) : Wx (d) 74 0 (lv_args 0 [.ref (X.1 8), .int (nI j)]) [] h (fun r0 => r0 = (.inl (some (.int (bI (p_cont M j (pN M 1 j) 0)))), h)) := by
  have b20 := R.b20
  show Wx _ _ 0 [(0, .ref (X.1 8)), (1, .int (nI j))] [] h _
  refine x_run 5 (pc' := 5) (lv' := [(2, .int (0)), (0, .ref (X.1 8)), (1, .int (nI j))]) (st' := [.int ((nI 4) * (nI j))]) rfl ?_
  rw [pk_mul]
  refine x_run 1 (pc' := 6) (lv' := [(3, .int (nI (4 * j))), (2, .int (0)), (0, .ref (X.1 8)), (1, .int (nI j))]) (st' := []) rfl ?_
  refine x_lv (a := [(3, .int (nI (4 * j))), (2, .int (0)), (0, .ref (X.1 8)), (1, .int (nI j))]) rfl rfl ⟨rfl, rfl, rfl, rfl, trivial⟩ ?_
  have e := k_contL (d := d) R hj (pN M 1 j) 0 false (by omega)
  rw [Bool.false_or] at e
  exact e
theorem k_blkL (R : Rep u v X P M z h) {r : Nat} (hr : r < 8) : ∀ (m : Nat) (i : Nat) (b : Bool), i + m = pn M → Wx (d) 79 4 [(3, .int (nI i)), (2, .int (bI (b))), (0, .ref (X.1 8)), (1, .int (nI r))] [] h (fun r0 => r0 = (.inl (some (.int (bI (b || p_blk M r m i)))), h)) := by
  intro m
  induction m with
  | zero =>
    intro i b hm
    have m60 := R.m60
    refine x_run 2 (pc' := 6) (lv' := [(3, .int (nI i)), (2, .int (bI (b))), (0, .ref (X.1 8)), (1, .int (nI r))]) (st' := [.ref (X.1 8), .int (nI i)]) rfl ?_
    refine x_get (v := .int (nI (pn M))) rfl rfl R.c8 rfl ?_
    refine x_if (c := nI (pn M) ≤ nI i) (t := 65) rfl rfl (fun c1 => ?_) (fun c1 => ?_)
    · replace c1 := (nI_leI (by omega) (by omega)).mp c1
      refine x_run 1 (pc' := 66) (lv' := [(3, .int (nI i)), (2, .int (bI (b))), (0, .ref (X.1 8)), (1, .int (nI r))]) (st' := [.int (bI (b))]) rfl ?_
      refine x_retb rfl rfl ?_
      simp [p_blk, c1]
    · replace c1 := mt (nI_leI (by omega) (by omega)).mpr c1
      omega
  | succ m ih =>
    intro i b hm
    have m60 := R.m60
    have hi : i < pn M := by omega
    have r8 := R.wM.rk hi
    have p4 := R.wM.pc (pN M 0 i)
    refine x_run 2 (pc' := 6) (lv' := [(3, .int (nI i)), (2, .int (bI (b))), (0, .ref (X.1 8)), (1, .int (nI r))]) (st' := [.ref (X.1 8), .int (nI i)]) rfl ?_
    refine x_get (v := .int (nI (pn M))) rfl rfl R.c8 rfl ?_
    refine x_if (c := nI (pn M) ≤ nI i) (t := 65) rfl rfl (fun c1 => ?_) (fun c1 => ?_)
    · replace c1 := (nI_leI (by omega) (by omega)).mp c1
      omega
    · replace c1 := mt (nI_leI (by omega) (by omega)).mpr c1
      refine x_run 1 (pc' := 13) (lv' := [(3, .int (nI i)), (2, .int (bI (b))), (0, .ref (X.1 8)), (1, .int (nI r))]) (st' := [.int (bI (b))]) rfl ?_
      refine x_if (c := ¬ bI (b) = 0) (t := 53) rfl rfl (fun c2 => ?_) (fun c2 => ?_)
      · replace c2 := bI_n0 c2
        refine x_run 4 (pc' := 62) (lv' := [(3, .int (nI i + 1)), (2, .int (1)), (0, .ref (X.1 8)), (1, .int (nI r))]) (st' := []) rfl ?_
        rw [nI_1]
        refine x_run 1 (pc' := 4) (lv' := [(3, .int (nI (i + 1))), (2, .int (1)), (0, .ref (X.1 8)), (1, .int (nI r))]) (st' := []) rfl ?_
        refine x_lv (a := [(3, .int (nI (i + 1))), (2, .int (1)), (0, .ref (X.1 8)), (1, .int (nI r))]) rfl rfl ⟨rfl, rfl, rfl, rfl, trivial⟩ ?_
        rw [show (b || p_blk M r (m + 1) i) = (true || p_blk M r m (i + 1)) from by simp [p_blk, c1, c2]]
        exact ih (i + 1) true (by omega)
      · replace c2 := bI_0.mp (Classical.not_not.mp c2)
        refine x_run 1 (pc' := 17) (lv' := [(3, .int (nI i)), (2, .int (bI (b))), (0, .ref (X.1 8)), (1, .int (nI r))]) (st' := [.ref (X.1 8)]) rfl ?_
        refine x_get (v := .ref (X.1 9)) rfl rfl R.c8 rfl ?_
        refine x_run 1 (pc' := 21) (lv' := [(3, .int (nI i)), (2, .int (bI (b))), (0, .ref (X.1 8)), (1, .int (nI r))]) (st' := [.int (nI i), .ref (X.1 9)]) rfl ?_
        refine x_iald (j := i) rfl R.c9 (mm_idx_nI (by omega) (by omega)) ?_
        refine x_run 1 (pc' := 23) (lv' := [(3, .int (nI i)), (2, .int (bI (b))), (0, .ref (X.1 8)), (1, .int (nI r))]) (st' := [.int (nI r), .int (nI (pN M 0 i))]) rfl ?_
        refine x_if (c := nI r ≤ nI (pN M 0 i)) (t := 57) rfl rfl (fun c3 => ?_) (fun c3 => ?_)
        · replace c3 := (nI_leI (by omega) (by omega)).mp c3
          refine x_run 3 (pc' := 62) (lv' := [(3, .int (nI i + 1)), (2, .int (0)), (0, .ref (X.1 8)), (1, .int (nI r))]) (st' := []) rfl ?_
          rw [nI_1]
          refine x_run 1 (pc' := 4) (lv' := [(3, .int (nI (i + 1))), (2, .int (0)), (0, .ref (X.1 8)), (1, .int (nI r))]) (st' := []) rfl ?_
          refine x_lv (a := [(3, .int (nI (i + 1))), (2, .int (0)), (0, .ref (X.1 8)), (1, .int (nI r))]) rfl rfl ⟨rfl, rfl, rfl, rfl, trivial⟩ ?_
          rw [show (b || p_blk M r (m + 1) i) = (false || p_blk M r m (i + 1)) from by simp [p_blk, c1, c2, c3, show ¬ pN M 0 i < r by omega]]
          exact ih (i + 1) false (by omega)
        · replace c3 := mt (nI_leI (by omega) (by omega)).mpr c3
          refine x_run 1 (pc' := 27) (lv' := [(3, .int (nI i)), (2, .int (bI (b))), (0, .ref (X.1 8)), (1, .int (nI r))]) (st' := [.ref (X.1 8)]) rfl ?_
          refine x_get (v := .ref (X.1 15)) rfl rfl R.c8 rfl ?_
          refine x_run 1 (pc' := 31) (lv' := [(3, .int (nI i)), (2, .int (bI (b))), (0, .ref (X.1 8)), (1, .int (nI r))]) (st' := [.int (nI i), .ref (X.1 15)]) rfl ?_
          refine x_iald (j := i) rfl R.c15 (mm_idx_nI (by omega) (by omega)) ?_
          refine x_run 1 (pc' := 33) (lv' := [(3, .int (nI i)), (2, .int (bI (b))), (0, .ref (X.1 8)), (1, .int (nI r))]) (st' := [.int (2), .int (pI M 0 i)]) rfl ?_
          refine x_if (c := pI M 0 i = 2) (t := 57) rfl rfl (fun c4 => ?_) (fun c4 => ?_)
          · refine x_run 3 (pc' := 62) (lv' := [(3, .int (nI i + 1)), (2, .int (0)), (0, .ref (X.1 8)), (1, .int (nI r))]) (st' := []) rfl ?_
            rw [nI_1]
            refine x_run 1 (pc' := 4) (lv' := [(3, .int (nI (i + 1))), (2, .int (0)), (0, .ref (X.1 8)), (1, .int (nI r))]) (st' := []) rfl ?_
            refine x_lv (a := [(3, .int (nI (i + 1))), (2, .int (0)), (0, .ref (X.1 8)), (1, .int (nI r))]) rfl rfl ⟨rfl, rfl, rfl, rfl, trivial⟩ ?_
            rw [show (b || p_blk M r (m + 1) i) = (false || p_blk M r m (i + 1)) from by simp [p_blk, c1, c2, c3, c4, show pN M 0 i < r by omega]]
            exact ih (i + 1) false (by omega)
          · refine x_run 1 (pc' := 37) (lv' := [(3, .int (nI i)), (2, .int (bI (b))), (0, .ref (X.1 8)), (1, .int (nI r))]) (st' := [.ref (X.1 8)]) rfl ?_
            refine x_get (v := .ref (X.1 20)) rfl rfl R.c8 rfl ?_
            refine x_run 1 (pc' := 41) (lv' := [(3, .int (nI i)), (2, .int (bI (b))), (0, .ref (X.1 8)), (1, .int (nI r))]) (st' := [.ref (X.1 8), .ref (X.1 20)]) rfl ?_
            refine x_get (v := .ref (X.1 9)) rfl rfl R.c8 rfl ?_
            refine x_run 1 (pc' := 45) (lv' := [(3, .int (nI i)), (2, .int (bI (b))), (0, .ref (X.1 8)), (1, .int (nI r))]) (st' := [.int (nI i), .ref (X.1 9), .ref (X.1 20)]) rfl ?_
            refine x_iald (j := i) rfl R.c9 (mm_idx_nI (by omega) (by omega)) ?_
            refine x_iald (j := pN M 0 i) rfl R.c20 (mm_idx_nI (by omega) (by omega)) ?_
            refine x_run 1 (pc' := 50) (lv' := [(3, .int (nI i)), (2, .int (bI (b))), (0, .ref (X.1 8)), (1, .int (nI r))]) (st' := [.int (10000), .int (nI (pN M 3 (pN M 0 i)))]) rfl ?_
            refine x_if (c := nI (pN M 3 (pN M 0 i)) = nI 10000) (t := 57) rfl rfl (fun c5 => ?_) (fun c5 => ?_)
            · replace c5 := (nI_eq (by omega) (by omega)).mp c5
              refine x_run 3 (pc' := 62) (lv' := [(3, .int (nI i + 1)), (2, .int (0)), (0, .ref (X.1 8)), (1, .int (nI r))]) (st' := []) rfl ?_
              rw [nI_1]
              refine x_run 1 (pc' := 4) (lv' := [(3, .int (nI (i + 1))), (2, .int (0)), (0, .ref (X.1 8)), (1, .int (nI r))]) (st' := []) rfl ?_
              refine x_lv (a := [(3, .int (nI (i + 1))), (2, .int (0)), (0, .ref (X.1 8)), (1, .int (nI r))]) rfl rfl ⟨rfl, rfl, rfl, rfl, trivial⟩ ?_
              rw [show (b || p_blk M r (m + 1) i) = (false || p_blk M r m (i + 1)) from by simp [p_blk, c1, c2, c3, c4, c5, show pN M 0 i < r by omega]]
              exact ih (i + 1) false (by omega)
            · replace c5 := mt (nI_eq (by omega) (by omega)).mpr c5
              refine x_run 4 (pc' := 62) (lv' := [(3, .int (nI i + 1)), (2, .int (1)), (0, .ref (X.1 8)), (1, .int (nI r))]) (st' := []) rfl ?_
              rw [nI_1]
              refine x_run 1 (pc' := 4) (lv' := [(3, .int (nI (i + 1))), (2, .int (1)), (0, .ref (X.1 8)), (1, .int (nI r))]) (st' := []) rfl ?_
              refine x_lv (a := [(3, .int (nI (i + 1))), (2, .int (1)), (0, .ref (X.1 8)), (1, .int (nI r))]) rfl rfl ⟨rfl, rfl, rfl, rfl, trivial⟩ ?_
              rw [show (b || p_blk M r (m + 1) i) = (true || p_blk M r m (i + 1)) from by simp [p_blk, c1, c2, c3, c4, c5, show pN M 0 i < r by omega]]
              exact ih (i + 1) true (by omega)
theorem k_blk (R : Rep u v X P M z h) {r : Nat} (hr : r < 8) : Wx (d) 79 0 (lv_args 0 [.ref (X.1 8), .int (nI r)]) [] h (fun r0 => r0 = (.inl (some (.int (bI (p_blk M r (pn M) 0)))), h)) := by
  show Wx _ _ 0 [(0, .ref (X.1 8)), (1, .int (nI r))] [] h _
  refine x_run 4 (pc' := 4) (lv' := [(3, .int (0)), (2, .int (0)), (0, .ref (X.1 8)), (1, .int (nI r))]) (st' := []) rfl ?_
  refine x_lv (a := [(3, .int (0)), (2, .int (0)), (0, .ref (X.1 8)), (1, .int (nI r))]) rfl rfl ⟨rfl, rfl, rfl, rfl, trivial⟩ ?_
  have e := k_blkL (d := d) R hr (pn M) 0 false (by omega)
  rw [Bool.false_or] at e
  exact e
theorem k_needL (R : Rep u v X P M z h) {r : Nat} (hr : r < 8) (q : Int32) : ∀ (m : Nat) (i : Nat) (acc : Int64), i + m = pn M → Wx (d + 3) 80 5 [(5, .int (nI i)), (3, .long (acc)), (0, .ref (X.1 8)), (1, .int (nI r)), (2, .int (q))] [] h (fun r0 => r0 = (.inl (some (.long (p_need M r q m i acc))), h)) := by
  intro m
  induction m with
  | zero =>
    intro i acc hm
    have m60 := R.m60
    refine x_run 2 (pc' := 8) (lv' := [(5, .int (nI i)), (3, .long (acc)), (0, .ref (X.1 8)), (1, .int (nI r)), (2, .int (q))]) (st' := [.ref (X.1 8), .int (nI i)]) rfl ?_
    refine x_get (v := .int (nI (pn M))) rfl rfl R.c8 rfl ?_
    refine x_if (c := nI (pn M) ≤ nI i) (t := 77) rfl rfl (fun c1 => ?_) (fun c1 => ?_)
    · replace c1 := (nI_leI (by omega) (by omega)).mp c1
      refine x_run 1 (pc' := 78) (lv' := [(5, .int (nI i)), (3, .long (acc)), (0, .ref (X.1 8)), (1, .int (nI r)), (2, .int (q))]) (st' := [.long (acc)]) rfl ?_
      refine x_ret (v := some (.long (acc))) rfl rfl rfl ?_
      simp [p_need, c1]
    · replace c1 := mt (nI_leI (by omega) (by omega)).mpr c1
      omega
  | succ m ih =>
    intro i acc hm
    have m60 := R.m60
    have hi : i < pn M := by omega
    have r8 := R.wM.rk hi
    have p4 := R.wM.pc (pN M 0 i)
    refine x_run 2 (pc' := 8) (lv' := [(5, .int (nI i)), (3, .long (acc)), (0, .ref (X.1 8)), (1, .int (nI r)), (2, .int (q))]) (st' := [.ref (X.1 8), .int (nI i)]) rfl ?_
    refine x_get (v := .int (nI (pn M))) rfl rfl R.c8 rfl ?_
    refine x_if (c := nI (pn M) ≤ nI i) (t := 77) rfl rfl (fun c1 => ?_) (fun c1 => ?_)
    · replace c1 := (nI_leI (by omega) (by omega)).mp c1
      omega
    · replace c1 := mt (nI_leI (by omega) (by omega)).mpr c1
      refine x_run 2 (pc' := 16) (lv' := [(5, .int (nI i)), (3, .long (acc)), (0, .ref (X.1 8)), (1, .int (nI r)), (2, .int (q))]) (st' := [.ref (X.1 8), .long (acc)]) rfl ?_
      refine x_get (v := .ref (X.1 9)) rfl rfl R.c8 rfl ?_
      refine x_run 1 (pc' := 21) (lv' := [(5, .int (nI i)), (3, .long (acc)), (0, .ref (X.1 8)), (1, .int (nI r)), (2, .int (q))]) (st' := [.int (nI i), .ref (X.1 9), .long (acc)]) rfl ?_
      refine x_iald (j := i) rfl R.c9 (mm_idx_nI (by omega) (by omega)) ?_
      refine x_run 1 (pc' := 23) (lv' := [(5, .int (nI i)), (3, .long (acc)), (0, .ref (X.1 8)), (1, .int (nI r)), (2, .int (q))]) (st' := [.int (nI r), .int (nI (pN M 0 i)), .long (acc)]) rfl ?_
      refine x_if (c := nI r ≤ nI (pN M 0 i)) (t := 47) rfl rfl (fun c2 => ?_) (fun c2 => ?_)
      · replace c2 := (nI_leI (by omega) (by omega)).mp c2
        refine x_run 1 (pc' := 48) (lv' := [(5, .int (nI i)), (3, .long (acc)), (0, .ref (X.1 8)), (1, .int (nI r)), (2, .int (q))]) (st' := [.ref (X.1 8), .long (acc)]) rfl ?_
        refine x_get (v := .ref (X.1 9)) rfl rfl R.c8 rfl ?_
        refine x_run 1 (pc' := 53) (lv' := [(5, .int (nI i)), (3, .long (acc)), (0, .ref (X.1 8)), (1, .int (nI r)), (2, .int (q))]) (st' := [.int (nI i), .ref (X.1 9), .long (acc)]) rfl ?_
        refine x_iald (j := i) rfl R.c9 (mm_idx_nI (by omega) (by omega)) ?_
        refine x_run 1 (pc' := 55) (lv' := [(5, .int (nI i)), (3, .long (acc)), (0, .ref (X.1 8)), (1, .int (nI r)), (2, .int (q))]) (st' := [.int (nI r), .int (nI (pN M 0 i)), .long (acc)]) rfl ?_
        refine x_if (c := ¬ nI (pN M 0 i) = nI r) (t := 68) rfl rfl (fun c3 => ?_) (fun c3 => ?_)
        · replace c3 := mt (nI_eq (by omega) (by omega)).mpr c3
          refine x_run 4 (pc' := 74) (lv' := [(5, .int (nI i + 1)), (3, .long (acc + 0)), (0, .ref (X.1 8)), (1, .int (nI r)), (2, .int (q))]) (st' := []) rfl ?_
          rw [nI_1]
          refine x_run 1 (pc' := 5) (lv' := [(5, .int (nI (i + 1))), (3, .long (acc + 0)), (0, .ref (X.1 8)), (1, .int (nI r)), (2, .int (q))]) (st' := []) rfl ?_
          refine x_lv (a := [(5, .int (nI (i + 1))), (3, .long (acc + 0)), (0, .ref (X.1 8)), (1, .int (nI r)), (2, .int (q))]) rfl rfl ⟨rfl, rfl, rfl, rfl, rfl, trivial⟩ ?_
          rw [show p_need M r q (m + 1) i acc = p_need M r q m (i + 1) (acc + 0) from by rw [p_need]; rw [if_neg (by omega), if_neg (by omega), Int64.add_zero]]
          exact ih (i + 1) _ (by omega)
        · replace c3 := (nI_eq (by omega) (by omega)).mp (Classical.not_not.mp c3)
          refine x_run 3 (pc' := 62) (lv' := [(5, .int (nI i)), (3, .long (acc)), (0, .ref (X.1 8)), (1, .int (nI r)), (2, .int (q))]) (st' := [.int (q), .int (nI i), .ref (X.1 8), .long (acc)]) rfl ?_
          refine x_rd (v := .long (p_lack M i q)) (k' := 66) (as := [.ref (X.1 8), .int (nI i), .int (q)]) (rest := [.long (acc)]) (x_isV (np := 2) rfl rfl rfl R.c8 rfl) (k_lack R hi _) ?_
          refine x_run 4 (pc' := 74) (lv' := [(5, .int (nI i + 1)), (3, .long (acc + (p_lack M i q))), (0, .ref (X.1 8)), (1, .int (nI r)), (2, .int (q))]) (st' := []) rfl ?_
          rw [nI_1]
          refine x_run 1 (pc' := 5) (lv' := [(5, .int (nI (i + 1))), (3, .long (acc + (p_lack M i q))), (0, .ref (X.1 8)), (1, .int (nI r)), (2, .int (q))]) (st' := []) rfl ?_
          refine x_lv (a := [(5, .int (nI (i + 1))), (3, .long (acc + (p_lack M i q))), (0, .ref (X.1 8)), (1, .int (nI r)), (2, .int (q))]) rfl rfl ⟨rfl, rfl, rfl, rfl, rfl, trivial⟩ ?_
          rw [show p_need M r q (m + 1) i acc = p_need M r q m (i + 1) (acc + (p_lack M i q)) from by rw [p_need]; first | rw [if_pos (by omega)] | rw [if_neg (by omega), if_pos (by omega)]]
          exact ih (i + 1) _ (by omega)
      · replace c2 := mt (nI_leI (by omega) (by omega)).mpr c2
        refine x_run 3 (pc' := 30) (lv' := [(5, .int (nI i)), (3, .long (acc)), (0, .ref (X.1 8)), (1, .int (nI r)), (2, .int (q))]) (st' := [.ref (X.1 8), .int (nI i), .ref (X.1 8), .long (acc)]) rfl ?_
        refine x_get (v := .ref (X.1 20)) rfl rfl R.c8 rfl ?_
        refine x_run 1 (pc' := 34) (lv' := [(5, .int (nI i)), (3, .long (acc)), (0, .ref (X.1 8)), (1, .int (nI r)), (2, .int (q))]) (st' := [.ref (X.1 8), .ref (X.1 20), .int (nI i), .ref (X.1 8), .long (acc)]) rfl ?_
        refine x_get (v := .ref (X.1 9)) rfl rfl R.c8 rfl ?_
        refine x_run 1 (pc' := 39) (lv' := [(5, .int (nI i)), (3, .long (acc)), (0, .ref (X.1 8)), (1, .int (nI r)), (2, .int (q))]) (st' := [.int (nI i), .ref (X.1 9), .ref (X.1 20), .int (nI i), .ref (X.1 8), .long (acc)]) rfl ?_
        refine x_iald (j := i) rfl R.c9 (mm_idx_nI (by omega) (by omega)) ?_
        refine x_iald (j := pN M 0 i) rfl R.c20 (mm_idx_nI (by omega) (by omega)) ?_
        refine x_rd (v := .long (p_lack M i (nI (pN M 3 (pN M 0 i))))) (k' := 66) (as := [.ref (X.1 8), .int (nI i), .int (nI (pN M 3 (pN M 0 i)))]) (rest := [.long (acc)]) (x_isV (np := 2) rfl rfl rfl R.c8 rfl) (k_lack R hi _) ?_
        refine x_run 4 (pc' := 74) (lv' := [(5, .int (nI i + 1)), (3, .long (acc + (p_lack M i (nI (pN M 3 (pN M 0 i)))))), (0, .ref (X.1 8)), (1, .int (nI r)), (2, .int (q))]) (st' := []) rfl ?_
        rw [nI_1]
        refine x_run 1 (pc' := 5) (lv' := [(5, .int (nI (i + 1))), (3, .long (acc + (p_lack M i (nI (pN M 3 (pN M 0 i)))))), (0, .ref (X.1 8)), (1, .int (nI r)), (2, .int (q))]) (st' := []) rfl ?_
        refine x_lv (a := [(5, .int (nI (i + 1))), (3, .long (acc + (p_lack M i (nI (pN M 3 (pN M 0 i)))))), (0, .ref (X.1 8)), (1, .int (nI r)), (2, .int (q))]) rfl rfl ⟨rfl, rfl, rfl, rfl, rfl, trivial⟩ ?_
        rw [show p_need M r q (m + 1) i acc = p_need M r q m (i + 1) (acc + (p_lack M i (nI (pN M 3 (pN M 0 i))))) from by rw [p_need]; first | rw [if_pos (by omega)] | rw [if_neg (by omega), if_pos (by omega)]]
        exact ih (i + 1) _ (by omega)
theorem k_need (R : Rep u v X P M z h) {r : Nat} (hr : r < 8) (q : Int32) : Wx (d + 3) 80 0 (lv_args 0 [.ref (X.1 8), .int (nI r), .int (q)]) [] h (fun r0 => r0 = (.inl (some (.long (p_need M r q (pn M) 0 0))), h)) := by
  show Wx _ _ 0 [(0, .ref (X.1 8)), (1, .int (nI r)), (2, .int (q))] [] h _
  refine x_run 4 (pc' := 5) (lv' := [(5, .int (0)), (3, .long (0)), (0, .ref (X.1 8)), (1, .int (nI r)), (2, .int (q))]) (st' := []) rfl ?_
  refine x_lv (a := [(5, .int (0)), (3, .long (0)), (0, .ref (X.1 8)), (1, .int (nI r)), (2, .int (q))]) rfl rfl ⟨rfl, rfl, rfl, rfl, rfl, trivial⟩ ?_
  exact k_needL R hr q _ 0 0 (by omega)
theorem k_unrL (R : Rep u v X P M z h) : ∀ (m : Nat) (j : Nat) (b : Bool), j + m = pa M → Wx (d) 85 4 [(2, .int (nI j)), (1, .int (bI (b))), (0, .ref (X.1 8))] [] h (fun r0 => r0 = (.inl (some (.int (bI (b && !p_unr M m j)))), h)) := by
  intro m
  induction m with
  | zero =>
    intro j b hm
    have b20 := R.b20
    refine x_run 2 (pc' := 6) (lv' := [(2, .int (nI j)), (1, .int (bI (b))), (0, .ref (X.1 8))]) (st' := [.ref (X.1 8), .int (nI j)]) rfl ?_
    refine x_get (v := .int (nI (pa M))) rfl rfl R.c8 rfl ?_
    refine x_if (c := nI (pa M) ≤ nI j) (t := 37) rfl rfl (fun c1 => ?_) (fun c1 => ?_)
    · replace c1 := (nI_leI (by omega) (by omega)).mp c1
      refine x_run 1 (pc' := 38) (lv' := [(2, .int (nI j)), (1, .int (bI (b))), (0, .ref (X.1 8))]) (st' := [.int (bI (b))]) rfl ?_
      refine x_retb rfl rfl ?_
      simp [p_unr, c1]
    · replace c1 := mt (nI_leI (by omega) (by omega)).mpr c1
      omega
  | succ m ih =>
    intro j b hm
    have b20 := R.b20
    have hj : j < pa M := by omega
    refine x_run 2 (pc' := 6) (lv' := [(2, .int (nI j)), (1, .int (bI (b))), (0, .ref (X.1 8))]) (st' := [.ref (X.1 8), .int (nI j)]) rfl ?_
    refine x_get (v := .int (nI (pa M))) rfl rfl R.c8 rfl ?_
    refine x_if (c := nI (pa M) ≤ nI j) (t := 37) rfl rfl (fun c1 => ?_) (fun c1 => ?_)
    · replace c1 := (nI_leI (by omega) (by omega)).mp c1
      omega
    · replace c1 := mt (nI_leI (by omega) (by omega)).mpr c1
      refine x_run 1 (pc' := 13) (lv' := [(2, .int (nI j)), (1, .int (bI (b))), (0, .ref (X.1 8))]) (st' := [.int (bI (b))]) rfl ?_
      refine x_if (c := bI (b) = 0) (t := 29) rfl rfl (fun c2 => ?_) (fun c2 => ?_)
      · replace c2 := bI_0.mp c2
        refine x_run 3 (pc' := 34) (lv' := [(2, .int (nI j + 1)), (1, .int (0)), (0, .ref (X.1 8))]) (st' := []) rfl ?_
        rw [nI_1]
        refine x_run 1 (pc' := 4) (lv' := [(2, .int (nI (j + 1))), (1, .int (0)), (0, .ref (X.1 8))]) (st' := []) rfl ?_
        refine x_lv (a := [(2, .int (nI (j + 1))), (1, .int (0)), (0, .ref (X.1 8))]) rfl rfl ⟨rfl, rfl, rfl, trivial⟩ ?_
        rw [show (b && !p_unr M (m + 1) j) = (false && !p_unr M m (j + 1)) from by simp [p_unr, c1, c2]]
        exact ih (j + 1) false (by omega)
      · replace c2 := bI_n0 c2
        refine x_run 1 (pc' := 17) (lv' := [(2, .int (nI j)), (1, .int (bI (b))), (0, .ref (X.1 8))]) (st' := [.ref (X.1 8)]) rfl ?_
        refine x_get (v := .ref (X.1 16)) rfl rfl R.c8 rfl ?_
        refine x_run 1 (pc' := 21) (lv' := [(2, .int (nI j)), (1, .int (bI (b))), (0, .ref (X.1 8))]) (st' := [.int (nI j), .ref (X.1 16)]) rfl ?_
        refine x_zald (j := j) rfl R.c16 (mm_idx_nI (by omega) (by omega)) ?_
        refine x_if (c := pI M 1 j = 0) (t := 29) rfl rfl (fun c3 => ?_) (fun c3 => ?_)
        · refine x_run 3 (pc' := 34) (lv' := [(2, .int (nI j + 1)), (1, .int (0)), (0, .ref (X.1 8))]) (st' := []) rfl ?_
          rw [nI_1]
          refine x_run 1 (pc' := 4) (lv' := [(2, .int (nI (j + 1))), (1, .int (0)), (0, .ref (X.1 8))]) (st' := []) rfl ?_
          refine x_lv (a := [(2, .int (nI (j + 1))), (1, .int (0)), (0, .ref (X.1 8))]) rfl rfl ⟨rfl, rfl, rfl, trivial⟩ ?_
          rw [show (b && !p_unr M (m + 1) j) = (false && !p_unr M m (j + 1)) from by simp [p_unr, c1, c2, c3]]
          exact ih (j + 1) false (by omega)
        · refine x_run 4 (pc' := 34) (lv' := [(2, .int (nI j + 1)), (1, .int (1)), (0, .ref (X.1 8))]) (st' := []) rfl ?_
          rw [nI_1]
          refine x_run 1 (pc' := 4) (lv' := [(2, .int (nI (j + 1))), (1, .int (1)), (0, .ref (X.1 8))]) (st' := []) rfl ?_
          refine x_lv (a := [(2, .int (nI (j + 1))), (1, .int (1)), (0, .ref (X.1 8))]) rfl rfl ⟨rfl, rfl, rfl, trivial⟩ ?_
          rw [show (b && !p_unr M (m + 1) j) = (true && !p_unr M m (j + 1)) from by simp [p_unr, c1, c2, c3]]
          exact ih (j + 1) true (by omega)
theorem k_unr (R : Rep u v X P M z h) : Wx (d) 85 0 (lv_args 0 [.ref (X.1 8)]) [] h (fun r0 => r0 = (.inl (some (.int (bI (!p_unr M (pa M) 0)))), h)) := by
  show Wx _ _ 0 [(0, .ref (X.1 8))] [] h _
  refine x_run 4 (pc' := 4) (lv' := [(2, .int (0)), (1, .int (1)), (0, .ref (X.1 8))]) (st' := []) rfl ?_
  refine x_lv (a := [(2, .int (0)), (1, .int (1)), (0, .ref (X.1 8))]) rfl rfl ⟨rfl, rfl, rfl, trivial⟩ ?_
  have e := k_unrL (d := d) R (pa M) 0 true (by omega)
  rw [Bool.true_and] at e
  exact e
end MOD1
