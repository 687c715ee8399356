section PUB4
variable {u v d : Nat} {X : xX} {P M : pP} {z : zZ} {h : mm_H} {i j : Nat}
theorem c_asset (R : Rep (u + 1 + 1 + 1) v X P M z h) (h0 : X.2.1 = 0) (hz : Za P (pa P)) : Wx (d + 7) 3 0 (lv_args 0 [.ref (X.1 0)]) [] h (pQ (RX u v X M z) (o_asset P)) := by
  have a20 := R.a20
  show Wx _ _ 0 [(0, .ref (X.1 0))] [] h _
  refine x_run 1 (pc' := 1) (lv' := [(0, .ref (X.1 0))]) (st' := [.ref (X.1 0)]) rfl ?_
  refine x_get (v := .int (nI (pa P))) rfl rfl R.c0 rfl ?_
  refine x_run 1 (pc' := 6) (lv' := [(0, .ref (X.1 0))]) (st' := [.int (20), .int (nI (pa P))]) rfl ?_
  refine x_if (c := nI (pa P) < nI 20) (t := 19) rfl rfl (fun c1 => ?_) (fun c1 => ?_)
  · replace c1 := (nI_ltI (by omega) (by omega)).mp c1
    refine x_run 1 (pc' := 20) (lv' := [(0, .ref (X.1 0))]) (st' := [.ref (X.1 0)]) rfl ?_
    by_cases g2 : ¬ pI P 4 0 = 0
    · rw [show o_asset P = (6, none, P) from by simp only [o_asset, c1, g2, not_true_eq_false, not_false_eq_true, if_true, if_false, ite_true, ite_false, reduceIte, reduceCtorEq, Classical.not_not]]
      exact x_up (k' := 18) (as := [.ref (X.1 0)]) (rest := []) (x_isV (np := 0) rfl rfl rfl R.c0 rfl) rfl (c_liveX R g2) (fun r e => pQ_x (by decide) (e.imp fun a q => ⟨q.1, RX.of (q.2.less (by omega) (Nat.le_refl _))⟩))
    refine x_rd0 (k' := 18) (as := [.ref (X.1 0)]) (rest := []) (x_isV (np := 0) rfl rfl rfl R.c0 rfl) (c_live R (Classical.not_not.mp g2)) ?_
    refine x_run 1 (pc' := 24) (lv' := [(0, .ref (X.1 0))]) (st' := [.ref (X.1 0)]) rfl ?_
    refine x_get (v := .int (nI (pa P))) rfl rfl R.c0 rfl ?_
    refine x_run 2 (pc' := 29) (lv' := [(1, .int (nI (pa P))), (0, .ref (X.1 0))]) (st' := [.ref (X.1 0)]) rfl ?_
    refine x_get (v := .ref (X.1 2)) rfl rfl R.c0 rfl ?_
    refine x_run 1 (pc' := 33) (lv' := [(1, .int (nI (pa P))), (0, .ref (X.1 0))]) (st' := [.int (nI (pa P)), .ref (X.1 2)]) rfl ?_
    rw [show o_asset P = (0, some (.int (nI (pa P))), p_asset P) from by simp only [o_asset, c1, g2, not_true_eq_false, not_false_eq_true, if_true, if_false, ite_true, ite_false, reduceIte, reduceCtorEq, Classical.not_not]]
    refine x_lv (a := [(1, .int (nI (pa P))), (0, .ref (X.1 0))]) rfl rfl ⟨rfl, rfl, trivial⟩ ?_
    exact (t_asset R h0 (by omega) hz).mono (fun r0 e => e)
  · replace c1 := mt (nI_ltI (by omega) (by omega)).mpr c1
    rw [show o_asset P = (8, none, P) from by simp only [o_asset, c1, not_true_eq_false, not_false_eq_true, if_true, if_false, ite_true, ite_false, reduceIte, reduceCtorEq, Classical.not_not]]
    exact pQ_th (A := RX u v X M z) ((x_throw (R.less (u' := u + 1) (by omega) (Nat.le_refl _)) rfl rfl rfl rfl rfl rfl rfl rfl (by omega)).mono (fun _ e => e.imp fun a q => ⟨q.1, RX.of q.2⟩)) (by decide)
end PUB4
