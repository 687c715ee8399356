section PEND
variable {u v d : Nat} {X : xX} {P M : pP} {z : zZ} {h : mm_H} {i j : Nat}
theorem c_payRank (R : Rep (u + 1 + 1) (v + 60) X P M z h) (h0 : X.2.1 = 0) {r : Nat} (hr : r < 8) : Wx (d + 4) 32 0 (lv_args 0 [.ref (X.1 0), .int (nI r)]) [] h (fun r0 => r0.1 = .inl none ∧ Rep u v X (p_rank P r) M z r0.2) := by
  have n60 := R.n60
  show Wx _ _ 0 [(0, .ref (X.1 0)), (1, .int (nI r))] [] h _
  refine x_run 4 (pc' := 5) (lv' := [(4, .int (0)), (2, .long (0)), (0, .ref (X.1 0)), (1, .int (nI r))]) (st' := []) rfl ?_
  refine x_lv (a := [(4, .int (0)), (2, .long (0)), (0, .ref (X.1 0)), (1, .int (nI r))]) rfl rfl ⟨rfl, rfl, rfl, rfl, trivial⟩ ?_
  refine l_sumU R hr (pn P) 0 0 (by omega) ?_
  refine x_run 1 (pc' := 48) (lv' := [(4, .int (nI (pn P))), (2, .long (p_sumU P r (pn P) 0 0)), (0, .ref (X.1 0)), (1, .int (nI r))]) (st' := [.ref (X.1 0)]) rfl ?_
  refine x_get (v := .long (pL P 7 0)) rfl rfl R.c0 rfl ?_
  refine x_run 1 (pc' := 52) (lv' := [(4, .int (nI (pn P))), (2, .long (p_sumU P r (pn P) 0 0)), (0, .ref (X.1 0)), (1, .int (nI r))]) (st' := [.long (p_sumU P r (pn P) 0 0), .long (pL P 7 0)]) rfl ?_
  refine x_lge (t := 63) rfl rfl rfl (fun c1 => ?_) (fun c1 => ?_)
  · refine x_run 2 (pc' := 66) (lv' := [(4, .int (0)), (2, .long (p_sumU P r (pn P) 0 0)), (0, .ref (X.1 0)), (1, .int (nI r))]) (st' := []) rfl ?_
    refine x_lv (a := [(4, .int (0)), (0, .ref (X.1 0)), (1, .int (nI r))]) rfl rfl ⟨rfl, rfl, rfl, trivial⟩ ?_
    refine l_pays (v := v) hr (pn P) 0 P h (R.less (Nat.le_refl _) (by omega)) (by omega) (fun h R => ?_)
    refine x_ret (v := none) rfl rfl rfl ⟨rfl, ?_⟩
    rw [show p_rank P r = p_pays r (pn P) 0 P from if_pos (by assumption)]
    exact R.less (by omega) (by omega)
  · refine x_run 3 (pc' := 59) (lv' := [(4, .int (nI (pn P))), (2, .long (p_sumU P r (pn P) 0 0)), (0, .ref (X.1 0)), (1, .int (nI r))]) (st' := [.long (p_sumU P r (pn P) 0 0), .int (nI r), .ref (X.1 0)]) rfl ?_
    refine x_wr0 (A := Rep u v X (p_share P r (p_sumU P r (pn P) 0 0)) M z) (k' := 33) (as := [.ref (X.1 0), .int (nI r), .long (p_sumU P r (pn P) 0 0)]) (rest := []) (x_isV (np := 2) rfl rfl rfl R.c0 rfl) (c_share R h0 hr _) (fun h R => ?_)
    refine x_ret (v := none) rfl rfl rfl ⟨rfl, ?_⟩
    rw [show p_rank P r = p_share P r (p_sumU P r (pn P) 0 0) from if_neg (by assumption)]
    exact R.less (by omega) (by omega)
theorem l_ranks (h0 : X.2.1 = 0) {Q : mm_O × mm_H → Prop} : ∀ (m r : Nat) (P : pP) (h : mm_H), Rep (u + 2 * m) (v + 60 * m) X P M z h → r + m = 8 → (∀ h, Rep u v X (p_ranks m r P) M z h → Wx (d + 5) 12 72 [(0, .ref (X.1 0))] [] h Q) → Wx (d + 5) 12 55 [(1, .int (nI r)), (0, .ref (X.1 0))] [] h Q := by
  intro m
  induction m with
  | zero =>
    intro r P h R hm kk
    refine x_run 2 (pc' := 58) (lv' := [(1, .int (nI r)), (0, .ref (X.1 0))]) (st' := [.int (8), .int (nI r)]) rfl ?_
    refine x_if (c := nI 8 ≤ nI r) (t := 72) rfl rfl (fun c1 => ?_) (fun c1 => ?_)
    · replace c1 := (nI_leI (by omega) (by omega)).mp c1
      refine x_lv (a := [(0, .ref (X.1 0))]) rfl rfl ⟨rfl, trivial⟩ ?_
      exact kk h R
    · replace c1 := mt (nI_leI (by omega) (by omega)).mpr c1
      omega
  | succ m ih =>
    intro r P h R hm kk
    have R : Rep (u + 2 * m + 1 + 1) (v + 60 * m + 60) X P M z h := R.less (by omega) (by omega)
    refine x_run 2 (pc' := 58) (lv' := [(1, .int (nI r)), (0, .ref (X.1 0))]) (st' := [.int (8), .int (nI r)]) rfl ?_
    refine x_if (c := nI 8 ≤ nI r) (t := 72) rfl rfl (fun c1 => ?_) (fun c1 => ?_)
    · replace c1 := (nI_leI (by omega) (by omega)).mp c1
      omega
    · replace c1 := mt (nI_leI (by omega) (by omega)).mpr c1
      refine x_run 2 (pc' := 63) (lv' := [(1, .int (nI r)), (0, .ref (X.1 0))]) (st' := [.int (nI r), .ref (X.1 0)]) rfl ?_
      refine x_wr0 (A := Rep (u + 2 * m) (v + 60 * m) X (p_rank P r) M z) (k' := 32) (as := [.ref (X.1 0), .int (nI r)]) (rest := []) (x_isV (np := 1) rfl rfl rfl R.c0 rfl) (c_payRank R h0 (by omega)) (fun h R => ?_)
      refine x_run 1 (pc' := 69) (lv' := [(1, .int (nI r + 1)), (0, .ref (X.1 0))]) (st' := []) rfl ?_
      rw [nI_1]
      refine x_run 1 (pc' := 55) (lv' := [(1, .int (nI (r + 1))), (0, .ref (X.1 0))]) (st' := []) rfl ?_
      refine x_lv (a := [(1, .int (nI (r + 1))), (0, .ref (X.1 0))]) rfl rfl ⟨rfl, rfl, trivial⟩ ?_
      exact ih (r + 1) _ h R (by omega) kk
theorem l_end2 (R : Rep (u + 17) (v + 480 + 480 + 60) X P M z h) (h0 : X.2.1 = 0) (he : ¬ ¬ pI P 4 0 = 0) (hu : p_unr P (pa P) 0 = false) : Wx (d + 7) 12 42 [(0, .ref (X.1 0))] [] h (pQ (RP u v X M z) (o_end p_open P)) := by
  refine x_run 1 (pc' := 43) (lv' := [(0, .ref (X.1 0))]) (st' := [.ref (X.1 0)]) rfl ?_
  refine x_wr0 (A := Rep (u + 17) (v + 480 + 480) X (p_drop (pn P) 0 P) M z) (k' := 31) (as := [.ref (X.1 0)]) (rest := []) (x_isV (np := 0) rfl rfl rfl R.c0 rfl) (c_drop (v := v + 480 + 480) R) (fun h R => ?_)
  refine x_run 2 (pc' := 49) (lv' := [(0, .ref (X.1 0))]) (st' := [.int (7), .ref (X.1 0)]) rfl ?_
  refine x_wr (v := .long ((p_serveR p_open (7 + 1) 0 (p_drop (pn P) 0 P) 0).2)) (A := Rep (u + 17) (v + 480) X (p_end1 p_open P) M z) (k' := 26) (as := [.ref (X.1 0), .int (7)]) (rest := []) (x_isV (np := 1) rfl rfl rfl R.c0 rfl) (c_through (l := 7) (v := v + 480) R (by omega)) (fun h R => ?_)
  refine x_run 3 (pc' := 55) (lv' := [(1, .int (0)), (0, .ref (X.1 0))]) (st' := []) rfl ?_
  refine x_lv (a := [(1, .int (0)), (0, .ref (X.1 0))]) rfl rfl ⟨rfl, rfl, trivial⟩ ?_
  refine l_ranks (u := u) (v := v) h0 8 0 _ h (R.less (by omega) (by omega)) (by omega) (fun h R => ?_)
  replace R : Rep u v X (p_end2 p_open P) M z h := R
  obtain ⟨P2, hP2⟩ : ∃ P2, P2 = p_end2 p_open P := ⟨_, rfl⟩
  rw [← hP2] at R
  refine x_run 2 (pc' := 74) (lv' := [(0, .ref (X.1 0))]) (st' := [.int (1), .ref (X.1 0)]) rfl ?_
  refine x_put rfl rfl R.c0 rfl ?_
  refine gen_h (A := Rep u v X (sI P2 4 0 (1)) M z) (R.uEnded _) (fun h R => ?_)
  refine x_run 1 (pc' := 78) (lv' := [(0, .ref (X.1 0))]) (st' := [.ref (X.1 0)]) rfl ?_
  refine x_get (v := .long (pL P2 7 0)) rfl rfl R.c0 rfl ?_
  rw [show o_end p_open P = (0, some (.long (pL P2 7 0)), sI P2 4 0 (1)) from by rw [o_end, if_neg he, hu, hP2]; rfl]
  exact x_ret (v := some (.long (pL P2 7 0))) rfl rfl rfl (pQ_0 R)
theorem l_end1 (R : Rep (u + 17) (v + 480 + 480 + 60) X P M z h) (h0 : X.2.1 = 0) (he : ¬ ¬ pI P 4 0 = 0) : ∀ (m j : Nat), j + m = pa P → p_unr P (pa P) 0 = p_unr P m j → Wx (d + 7) 12 6 [(1, .int (nI j)), (0, .ref (X.1 0))] [] h (pQ (RP u v X M z) (o_end p_open P)) := by
  intro m
  induction m with
  | zero =>
    intro j hm hq
    have a20 := R.a20
    refine x_run 2 (pc' := 8) (lv' := [(1, .int (nI j)), (0, .ref (X.1 0))]) (st' := [.ref (X.1 0), .int (nI j)]) rfl ?_
    refine x_get (v := .int (nI (pa P))) rfl rfl R.c0 rfl ?_
    refine x_if (c := nI (pa P) ≤ nI j) (t := 42) rfl rfl (fun c1 => ?_) (fun c1 => ?_)
    · replace c1 := (nI_leI (by omega) (by omega)).mp c1
      refine x_lv (a := [(0, .ref (X.1 0))]) rfl rfl ⟨rfl, trivial⟩ ?_
      exact l_end2 R h0 he hq
    · replace c1 := mt (nI_leI (by omega) (by omega)).mpr c1
      omega
  | succ m ih =>
    intro j hm hq
    have a20 := R.a20
    have hj : j < pa P := by omega
    refine x_run 2 (pc' := 8) (lv' := [(1, .int (nI j)), (0, .ref (X.1 0))]) (st' := [.ref (X.1 0), .int (nI j)]) rfl ?_
    refine x_get (v := .int (nI (pa P))) rfl rfl R.c0 rfl ?_
    refine x_if (c := nI (pa P) ≤ nI j) (t := 42) rfl rfl (fun c1 => ?_) (fun c1 => ?_)
    · replace c1 := (nI_leI (by omega) (by omega)).mp c1
      omega
    · replace c1 := mt (nI_leI (by omega) (by omega)).mpr c1
      refine x_run 1 (pc' := 15) (lv' := [(1, .int (nI j)), (0, .ref (X.1 0))]) (st' := [.ref (X.1 0)]) rfl ?_
      refine x_get (v := .ref (X.1 2)) rfl rfl R.c0 rfl ?_
      refine x_run 1 (pc' := 19) (lv' := [(1, .int (nI j)), (0, .ref (X.1 0))]) (st' := [.int (nI j), .ref (X.1 2)]) rfl ?_
      refine x_aald4 (j := j) rfl R.c2 (mm_idx_nI (by omega) (by omega)) ?_
      rw [if_pos hj]
      refine x_get (v := .int (pI P 1 j)) rfl rfl (R.cA hj) rfl ?_
      refine x_if (c := ¬ pI P 1 j = 0) (t := 36) rfl rfl (fun c2 => ?_) (fun c2 => ?_)
      · refine x_run 1 (pc' := 39) (lv' := [(1, .int (nI j + 1)), (0, .ref (X.1 0))]) (st' := []) rfl ?_
        rw [nI_1]
        refine x_run 1 (pc' := 6) (lv' := [(1, .int (nI (j + 1))), (0, .ref (X.1 0))]) (st' := []) rfl ?_
        refine x_lv (a := [(1, .int (nI (j + 1))), (0, .ref (X.1 0))]) rfl rfl ⟨rfl, rfl, trivial⟩ ?_
        exact ih (j + 1) (by omega) (hq.trans (by rw [p_unr, if_neg c2]))
      · have hu : p_unr P (pa P) 0 = true := hq.trans (by rw [p_unr, if_pos (Classical.not_not.mp c2)])
        rw [show o_end p_open P = (6, none, P) from by rw [o_end, if_neg he, if_pos hu]]
        exact pQ_th (x_throw (R.less (u' := u + 1) (v' := v) (by omega) (by omega)) rfl rfl rfl rfl rfl rfl rfl rfl (by omega)) (by decide)
theorem c_end (R : Rep (u + 17) (v + 480 + 480 + 60) X P M z h) (h0 : X.2.1 = 0) : Wx (d + 7) 12 0 (lv_args 0 [.ref (X.1 0)]) [] h (pQ (RP u v X M z) (o_end p_open P)) := by
  show Wx _ _ 0 [(0, .ref (X.1 0))] [] h _
  refine x_run 1 (pc' := 1) (lv' := [(0, .ref (X.1 0))]) (st' := [.ref (X.1 0)]) rfl ?_
  by_cases g1 : ¬ pI P 4 0 = 0
  · rw [show o_end p_open P = (6, none, P) from by rw [o_end, if_pos g1]]
    exact x_up (k' := 18) (as := [.ref (X.1 0)]) (rest := []) (x_isV (np := 0) rfl rfl rfl R.c0 rfl) rfl (c_liveX R g1) (fun r e => pQ_x (by decide) (e.imp fun a q => ⟨q.1, q.2.less (by omega) (by omega)⟩))
  refine x_rd0 (k' := 18) (as := [.ref (X.1 0)]) (rest := []) (x_isV (np := 0) rfl rfl rfl R.c0 rfl) (c_live R (Classical.not_not.mp g1)) ?_
  refine x_run 2 (pc' := 6) (lv' := [(1, .int (0)), (0, .ref (X.1 0))]) (st' := []) rfl ?_
  refine x_lv (a := [(1, .int (0)), (0, .ref (X.1 0))]) rfl rfl ⟨rfl, rfl, trivial⟩ ?_
  exact l_end1 R h0 g1 (pa P) 0 (by omega) rfl
end PEND
