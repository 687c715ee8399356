section CLS1
variable {u v d : Nat} {X : xX} {P M : pP} {z : zZ} {h : mm_H} {i j : Nat}
theorem c_dueOf (R : Rep u v X P M z h) (hi : i < pn P) : Wx (d + 3) 23 0 (lv_args 0 [.ref (X.1 0), .ref (X.1 (100 + i))]) [] h (fun r0 => r0 = (.inl (some (.long (p_dueOf P i))), h)) := by
  have r8 := R.wP.rk hi
  show Wx _ _ 0 [(0, .ref (X.1 0)), (1, .ref (X.1 (100 + i)))] [] h _
  refine x_run 2 (pc' := 2) (lv' := [(0, .ref (X.1 0)), (1, .ref (X.1 (100 + i)))]) (st' := [.ref (X.1 0), .ref (X.1 (100 + i))]) rfl ?_
  refine x_get (v := .ref (X.1 3)) rfl rfl R.c0 rfl ?_
  refine x_run 1 (pc' := 6) (lv' := [(0, .ref (X.1 0)), (1, .ref (X.1 (100 + i)))]) (st' := [.ref (X.1 (100 + i)), .ref (X.1 3), .ref (X.1 (100 + i))]) rfl ?_
  refine x_get (v := .int (nI (pN P 0 i))) rfl rfl (R.cC hi) rfl ?_
  refine x_iald (j := pN P 0 i) rfl R.c3 (mm_idx_nI (by omega) (by omega)) ?_
  refine x_rd (v := .long (p_due P i (nI (pN P 3 (pN P 0 i))))) (k' := 43) (as := [.ref (X.1 (100 + i)), .int (nI (pN P 3 (pN P 0 i)))]) (rest := []) (x_isV (np := 1) rfl rfl rfl (R.cC hi) rfl) (c_due R hi (nI (pN P 3 (pN P 0 i)))) ?_
  refine x_ret (v := some (.long (p_due P i (nI (pN P 3 (pN P 0 i)))))) rfl rfl rfl ?_
  simp [p_dueOf]
theorem l_secures (R : Rep u v X P M z h) (hj : j < pa P) {c : Nat} (hc : c < pn P) : ∀ (m : Nat) (i : Nat), i + m = pN P 1 j → Wx (d) 48 2 [(2, .int (nI i)), (1, .ref (X.1 (100 + c))), (0, .ref (X.1 (200 + j)))] [] h (fun r0 => r0 = (.inl (some (.int (bI (p_has P j c m i)))), h)) := by
  intro m
  induction m with
  | zero =>
    intro i hm
    have mn := R.wP.mn hj
    refine x_run 2 (pc' := 4) (lv' := [(2, .int (nI i)), (1, .ref (X.1 (100 + c))), (0, .ref (X.1 (200 + j)))]) (st' := [.ref (X.1 (200 + j)), .int (nI i)]) rfl ?_
    refine x_get (v := .int (nI (pN P 1 j))) rfl rfl (R.cA hj) rfl ?_
    refine x_if (c := nI (pN P 1 j) ≤ nI i) (t := 28) rfl rfl (fun c1 => ?_) (fun c1 => ?_)
    · replace c1 := (nI_leI (by omega) (by omega)).mp c1
      refine x_run 1 (pc' := 29) (lv' := [(2, .int (nI i)), (1, .ref (X.1 (100 + c))), (0, .ref (X.1 (200 + j)))]) (st' := [.int (0)]) rfl ?_
      refine x_ret (v := some (.int (0))) rfl rfl rfl ?_
      simp [p_has, bI, c1]
    · replace c1 := mt (nI_leI (by omega) (by omega)).mpr c1
      omega
  | succ m ih =>
    intro i hm
    have mn := R.wP.mn hj
    have hk : i < pN P 1 j := by omega
    have hd := R.wP.hd hj hk
    refine x_run 2 (pc' := 4) (lv' := [(2, .int (nI i)), (1, .ref (X.1 (100 + c))), (0, .ref (X.1 (200 + j)))]) (st' := [.ref (X.1 (200 + j)), .int (nI i)]) rfl ?_
    refine x_get (v := .int (nI (pN P 1 j))) rfl rfl (R.cA hj) rfl ?_
    refine x_if (c := nI (pN P 1 j) ≤ nI i) (t := 28) rfl rfl (fun c1 => ?_) (fun c1 => ?_)
    · replace c1 := (nI_leI (by omega) (by omega)).mp c1
      omega
    · replace c1 := mt (nI_leI (by omega) (by omega)).mpr c1
      refine x_run 1 (pc' := 11) (lv' := [(2, .int (nI i)), (1, .ref (X.1 (100 + c))), (0, .ref (X.1 (200 + j)))]) (st' := [.ref (X.1 (200 + j))]) rfl ?_
      refine x_get (v := .ref (X.1 (300 + j))) rfl rfl (R.cA hj) rfl ?_
      refine x_run 1 (pc' := 15) (lv' := [(2, .int (nI i)), (1, .ref (X.1 (100 + c))), (0, .ref (X.1 (200 + j)))]) (st' := [.int (nI i), .ref (X.1 (300 + j))]) rfl ?_
      refine x_aald3 (j := i) rfl (R.cH hj) (mm_idx_nI (by omega) (by omega)) ?_
      rw [if_pos hk]
      refine x_run 1 (pc' := 17) (lv' := [(2, .int (nI i)), (1, .ref (X.1 (100 + c))), (0, .ref (X.1 (200 + j)))]) (st' := [.ref (X.1 (100 + c)), .ref (X.1 (100 + pN P 2 (4 * j + i)))]) rfl ?_
      refine x_if (c := ¬ X.1 (100 + pN P 2 (4 * j + i)) = X.1 (100 + c)) (t := 22) rfl rfl (fun c2 => ?_) (fun c2 => ?_)
      · refine x_run 1 (pc' := 25) (lv' := [(2, .int (nI i + 1)), (1, .ref (X.1 (100 + c))), (0, .ref (X.1 (200 + j)))]) (st' := []) rfl ?_
        rw [nI_1]
        refine x_run 1 (pc' := 2) (lv' := [(2, .int (nI (i + 1))), (1, .ref (X.1 (100 + c))), (0, .ref (X.1 (200 + j)))]) (st' := []) rfl ?_
        refine x_lv (a := [(2, .int (nI (i + 1))), (1, .ref (X.1 (100 + c))), (0, .ref (X.1 (200 + j)))]) rfl rfl ⟨rfl, rfl, rfl, trivial⟩ ?_
        have e : ¬ pN P 2 (4 * j + i) = c := fun e => c2 (by rw [e])
        rw [show p_has P j c (m + 1) i = p_has P j c m (i + 1) from by simp [p_has, e]]
        exact ih (i + 1) (by omega)
      · refine x_run 1 (pc' := 21) (lv' := [(2, .int (nI i)), (1, .ref (X.1 (100 + c))), (0, .ref (X.1 (200 + j)))]) (st' := [.int (1)]) rfl ?_
        refine x_ret (v := some (.int (1))) rfl rfl rfl ?_
        have e := R.injC hd hc (Classical.not_not.mp c2)
        simp [p_has, bI, e]
theorem c_secures (R : Rep u v X P M z h) (hj : j < pa P) {c : Nat} (hc : c < pn P) : Wx (d) 48 0 (lv_args 0 [.ref (X.1 (200 + j)), .ref (X.1 (100 + c))]) [] h (fun r0 => r0 = (.inl (some (.int (bI (p_has P j c (pN P 1 j) 0)))), h)) := by
  show Wx _ _ 0 [(0, .ref (X.1 (200 + j))), (1, .ref (X.1 (100 + c)))] [] h _
  refine x_run 2 (pc' := 2) (lv' := [(2, .int (0)), (0, .ref (X.1 (200 + j))), (1, .ref (X.1 (100 + c)))]) (st' := []) rfl ?_
  refine x_lv (a := [(2, .int (0)), (1, .ref (X.1 (100 + c))), (0, .ref (X.1 (200 + j)))]) rfl rfl ⟨rfl, rfl, rfl, trivial⟩ ?_
  exact l_secures R hj hc _ 0 (by omega)
theorem l_cont (R : Rep u v X P M z h) (hj : j < pa P) : ∀ (m : Nat) (i : Nat), i + m = pN P 1 j → Wx (d) 49 2 [(1, .int (nI i)), (0, .ref (X.1 (200 + j)))] [] h (fun r0 => r0 = (.inl (some (.int (bI (p_cont P j m i)))), h)) := by
  intro m
  induction m with
  | zero =>
    intro i hm
    have mn := R.wP.mn hj
    refine x_run 2 (pc' := 4) (lv' := [(1, .int (nI i)), (0, .ref (X.1 (200 + j)))]) (st' := [.ref (X.1 (200 + j)), .int (nI i)]) rfl ?_
    refine x_get (v := .int (nI (pN P 1 j))) rfl rfl (R.cA hj) rfl ?_
    refine x_if (c := nI (pN P 1 j) ≤ nI i) (t := 31) rfl rfl (fun c1 => ?_) (fun c1 => ?_)
    · replace c1 := (nI_leI (by omega) (by omega)).mp c1
      refine x_run 1 (pc' := 32) (lv' := [(1, .int (nI i)), (0, .ref (X.1 (200 + j)))]) (st' := [.int (0)]) rfl ?_
      refine x_ret (v := some (.int (0))) rfl rfl rfl ?_
      simp [p_cont, bI, c1]
    · replace c1 := mt (nI_leI (by omega) (by omega)).mpr c1
      omega
  | succ m ih =>
    intro i hm
    have mn := R.wP.mn hj
    have hk : i < pN P 1 j := by omega
    have hd := R.wP.hd hj hk
    refine x_run 2 (pc' := 4) (lv' := [(1, .int (nI i)), (0, .ref (X.1 (200 + j)))]) (st' := [.ref (X.1 (200 + j)), .int (nI i)]) rfl ?_
    refine x_get (v := .int (nI (pN P 1 j))) rfl rfl (R.cA hj) rfl ?_
    refine x_if (c := nI (pN P 1 j) ≤ nI i) (t := 31) rfl rfl (fun c1 => ?_) (fun c1 => ?_)
    · replace c1 := (nI_leI (by omega) (by omega)).mp c1
      omega
    · replace c1 := mt (nI_leI (by omega) (by omega)).mpr c1
      refine x_run 1 (pc' := 11) (lv' := [(1, .int (nI i)), (0, .ref (X.1 (200 + j)))]) (st' := [.ref (X.1 (200 + j))]) rfl ?_
      refine x_get (v := .ref (X.1 (300 + j))) rfl rfl (R.cA hj) rfl ?_
      refine x_run 1 (pc' := 15) (lv' := [(1, .int (nI i)), (0, .ref (X.1 (200 + j)))]) (st' := [.int (nI i), .ref (X.1 (300 + j))]) rfl ?_
      refine x_aald3 (j := i) rfl (R.cH hj) (mm_idx_nI (by omega) (by omega)) ?_
      rw [if_pos hk]
      refine x_get (v := .int (pI P 0 (pN P 2 (4 * j + i)))) rfl rfl (R.cC hd) rfl ?_
      refine x_run 1 (pc' := 20) (lv' := [(1, .int (nI i)), (0, .ref (X.1 (200 + j)))]) (st' := [.int (1), .int (pI P 0 (pN P 2 (4 * j + i)))]) rfl ?_
      refine x_if (c := ¬ pI P 0 (pN P 2 (4 * j + i)) = 1) (t := 25) rfl rfl (fun c2 => ?_) (fun c2 => ?_)
      · refine x_run 1 (pc' := 28) (lv' := [(1, .int (nI i + 1)), (0, .ref (X.1 (200 + j)))]) (st' := []) rfl ?_
        rw [nI_1]
        refine x_run 1 (pc' := 2) (lv' := [(1, .int (nI (i + 1))), (0, .ref (X.1 (200 + j)))]) (st' := []) rfl ?_
        refine x_lv (a := [(1, .int (nI (i + 1))), (0, .ref (X.1 (200 + j)))]) rfl rfl ⟨rfl, rfl, trivial⟩ ?_
        rw [show p_cont P j (m + 1) i = p_cont P j m (i + 1) from by simp [p_cont, c2]]
        exact ih (i + 1) (by omega)
      · refine x_run 1 (pc' := 24) (lv' := [(1, .int (nI i)), (0, .ref (X.1 (200 + j)))]) (st' := [.int (1)]) rfl ?_
        refine x_ret (v := some (.int (1))) rfl rfl rfl ?_
        simp [p_cont, bI, Classical.not_not.mp c2]
theorem c_cont (R : Rep u v X P M z h) (hj : j < pa P) : Wx (d) 49 0 (lv_args 0 [.ref (X.1 (200 + j))]) [] h (fun r0 => r0 = (.inl (some (.int (bI (p_cont P j (pN P 1 j) 0)))), h)) := by
  show Wx _ _ 0 [(0, .ref (X.1 (200 + j)))] [] h _
  refine x_run 2 (pc' := 2) (lv' := [(1, .int (0)), (0, .ref (X.1 (200 + j)))]) (st' := []) rfl ?_
  refine x_lv (a := [(1, .int (0)), (0, .ref (X.1 (200 + j)))]) rfl rfl ⟨rfl, rfl, trivial⟩ ?_
  exact l_cont R hj _ 0 (by omega)
theorem l_blk (R : Rep u v X P M z h) {r : Nat} (hr : r < 8) : ∀ (m : Nat) (i : Nat), i + m = pn P → Wx (d) 24 2 [(2, .int (nI i)), (0, .ref (X.1 0)), (1, .int (nI r))] [] h (fun r0 => r0 = (.inl (some (.int (bI (p_blk P r m i)))), h)) := by
  intro m
  induction m with
  | zero =>
    intro i hm
    have n60 := R.n60
    refine x_run 2 (pc' := 4) (lv' := [(2, .int (nI i)), (0, .ref (X.1 0)), (1, .int (nI r))]) (st' := [.ref (X.1 0), .int (nI i)]) rfl ?_
    refine x_get (v := .int (nI (pn P))) rfl rfl R.c0 rfl ?_
    refine x_if (c := nI (pn P) ≤ nI i) (t := 56) rfl rfl (fun c1 => ?_) (fun c1 => ?_)
    · replace c1 := (nI_leI (by omega) (by omega)).mp c1
      refine x_run 1 (pc' := 57) (lv' := [(2, .int (nI i)), (0, .ref (X.1 0)), (1, .int (nI r))]) (st' := [.int (0)]) rfl ?_
      refine x_ret (v := some (.int (0))) rfl rfl rfl ?_
      simp [p_blk, bI, c1]
    · replace c1 := mt (nI_leI (by omega) (by omega)).mpr c1
      omega
  | succ m ih =>
    intro i hm
    have n60 := R.n60
    have hi : i < pn P := by omega
    have r8 := R.wP.rk hi
    have p4 := R.wP.pc (pN P 0 i)
    refine x_run 2 (pc' := 4) (lv' := [(2, .int (nI i)), (0, .ref (X.1 0)), (1, .int (nI r))]) (st' := [.ref (X.1 0), .int (nI i)]) rfl ?_
    refine x_get (v := .int (nI (pn P))) rfl rfl R.c0 rfl ?_
    refine x_if (c := nI (pn P) ≤ nI i) (t := 56) rfl rfl (fun c1 => ?_) (fun c1 => ?_)
    · replace c1 := (nI_leI (by omega) (by omega)).mp c1
      omega
    · replace c1 := mt (nI_leI (by omega) (by omega)).mpr c1
      refine x_run 1 (pc' := 11) (lv' := [(2, .int (nI i)), (0, .ref (X.1 0)), (1, .int (nI r))]) (st' := [.ref (X.1 0)]) rfl ?_
      refine x_get (v := .ref (X.1 1)) rfl rfl R.c0 rfl ?_
      refine x_run 1 (pc' := 15) (lv' := [(2, .int (nI i)), (0, .ref (X.1 0)), (1, .int (nI r))]) (st' := [.int (nI i), .ref (X.1 1)]) rfl ?_
      refine x_aald3 (j := i) rfl R.c1 (mm_idx_nI (by omega) (by omega)) ?_
      rw [if_pos hi]
      refine x_run 2 (pc' := 18) (lv' := [(3, .ref (X.1 (100 + i))), (2, .int (nI i)), (0, .ref (X.1 0)), (1, .int (nI r))]) (st' := [.ref (X.1 (100 + i))]) rfl ?_
      refine x_get (v := .int (nI (pN P 0 i))) rfl rfl (R.cC hi) rfl ?_
      refine x_run 1 (pc' := 22) (lv' := [(3, .ref (X.1 (100 + i))), (2, .int (nI i)), (0, .ref (X.1 0)), (1, .int (nI r))]) (st' := [.int (nI r), .int (nI (pN P 0 i))]) rfl ?_
      refine x_if (c := nI r ≤ nI (pN P 0 i)) (t := 50) rfl rfl (fun c2 => ?_) (fun c2 => ?_)
      · replace c2 := (nI_leI (by omega) (by omega)).mp c2
        refine x_run 1 (pc' := 53) (lv' := [(2, .int (nI i + 1)), (3, .ref (X.1 (100 + i))), (0, .ref (X.1 0)), (1, .int (nI r))]) (st' := []) rfl ?_
        rw [nI_1]
        refine x_run 1 (pc' := 2) (lv' := [(2, .int (nI (i + 1))), (3, .ref (X.1 (100 + i))), (0, .ref (X.1 0)), (1, .int (nI r))]) (st' := []) rfl ?_
        refine x_lv (a := [(2, .int (nI (i + 1))), (0, .ref (X.1 0)), (1, .int (nI r))]) rfl rfl ⟨rfl, rfl, rfl, trivial⟩ ?_
        rw [show p_blk P r (m + 1) i = p_blk P r m (i + 1) from by rw [p_blk]; rw [if_neg (fun e => by first | omega | exact e.2.1 (by assumption) | exact e.2.2 (by assumption))]]
        exact ih (i + 1) (by omega)
      · replace c2 := mt (nI_leI (by omega) (by omega)).mpr c2
        refine x_run 1 (pc' := 26) (lv' := [(3, .ref (X.1 (100 + i))), (2, .int (nI i)), (0, .ref (X.1 0)), (1, .int (nI r))]) (st' := [.ref (X.1 (100 + i))]) rfl ?_
        refine x_get (v := .int (pI P 0 i)) rfl rfl (R.cC hi) rfl ?_
        refine x_run 1 (pc' := 30) (lv' := [(3, .ref (X.1 (100 + i))), (2, .int (nI i)), (0, .ref (X.1 0)), (1, .int (nI r))]) (st' := [.int (2), .int (pI P 0 i)]) rfl ?_
        refine x_if (c := pI P 0 i = 2) (t := 50) rfl rfl (fun c3 => ?_) (fun c3 => ?_)
        · refine x_run 1 (pc' := 53) (lv' := [(2, .int (nI i + 1)), (3, .ref (X.1 (100 + i))), (0, .ref (X.1 0)), (1, .int (nI r))]) (st' := []) rfl ?_
          rw [nI_1]
          refine x_run 1 (pc' := 2) (lv' := [(2, .int (nI (i + 1))), (3, .ref (X.1 (100 + i))), (0, .ref (X.1 0)), (1, .int (nI r))]) (st' := []) rfl ?_
          refine x_lv (a := [(2, .int (nI (i + 1))), (0, .ref (X.1 0)), (1, .int (nI r))]) rfl rfl ⟨rfl, rfl, rfl, trivial⟩ ?_
          rw [show p_blk P r (m + 1) i = p_blk P r m (i + 1) from by rw [p_blk]; rw [if_neg (fun e => by first | omega | exact e.2.1 (by assumption) | exact e.2.2 (by assumption))]]
          exact ih (i + 1) (by omega)
        · refine x_run 1 (pc' := 34) (lv' := [(3, .ref (X.1 (100 + i))), (2, .int (nI i)), (0, .ref (X.1 0)), (1, .int (nI r))]) (st' := [.ref (X.1 0)]) rfl ?_
          refine x_get (v := .ref (X.1 3)) rfl rfl R.c0 rfl ?_
          refine x_run 1 (pc' := 38) (lv' := [(3, .ref (X.1 (100 + i))), (2, .int (nI i)), (0, .ref (X.1 0)), (1, .int (nI r))]) (st' := [.ref (X.1 (100 + i)), .ref (X.1 3)]) rfl ?_
          refine x_get (v := .int (nI (pN P 0 i))) rfl rfl (R.cC hi) rfl ?_
          refine x_iald (j := pN P 0 i) rfl R.c3 (mm_idx_nI (by omega) (by omega)) ?_
          refine x_run 1 (pc' := 45) (lv' := [(3, .ref (X.1 (100 + i))), (2, .int (nI i)), (0, .ref (X.1 0)), (1, .int (nI r))]) (st' := [.int (10000), .int (nI (pN P 3 (pN P 0 i)))]) rfl ?_
          refine x_if (c := nI (pN P 3 (pN P 0 i)) = nI 10000) (t := 50) rfl rfl (fun c4 => ?_) (fun c4 => ?_)
          · replace c4 := (nI_eq (by omega) (by omega)).mp c4
            refine x_run 1 (pc' := 53) (lv' := [(2, .int (nI i + 1)), (3, .ref (X.1 (100 + i))), (0, .ref (X.1 0)), (1, .int (nI r))]) (st' := []) rfl ?_
            rw [nI_1]
            refine x_run 1 (pc' := 2) (lv' := [(2, .int (nI (i + 1))), (3, .ref (X.1 (100 + i))), (0, .ref (X.1 0)), (1, .int (nI r))]) (st' := []) rfl ?_
            refine x_lv (a := [(2, .int (nI (i + 1))), (0, .ref (X.1 0)), (1, .int (nI r))]) rfl rfl ⟨rfl, rfl, rfl, trivial⟩ ?_
            rw [show p_blk P r (m + 1) i = p_blk P r m (i + 1) from by rw [p_blk]; rw [if_neg (fun e => by first | omega | exact e.2.1 (by assumption) | exact e.2.2 (by assumption))]]
            exact ih (i + 1) (by omega)
          · replace c4 := mt (nI_eq (by omega) (by omega)).mpr c4
            refine x_run 1 (pc' := 49) (lv' := [(3, .ref (X.1 (100 + i))), (2, .int (nI i)), (0, .ref (X.1 0)), (1, .int (nI r))]) (st' := [.int (1)]) rfl ?_
            refine x_ret (v := some (.int (1))) rfl rfl rfl ?_
            rw [show p_blk P r (m + 1) i = true from by rw [p_blk]; rw [if_pos ⟨by omega, by assumption, by assumption⟩]]
            rfl
theorem c_blk (R : Rep u v X P M z h) {r : Nat} (hr : r < 8) : Wx (d) 24 0 (lv_args 0 [.ref (X.1 0), .int (nI r)]) [] h (fun r0 => r0 = (.inl (some (.int (bI (p_blk P r (pn P) 0)))), h)) := by
  show Wx _ _ 0 [(0, .ref (X.1 0)), (1, .int (nI r))] [] h _
  refine x_run 2 (pc' := 2) (lv' := [(2, .int (0)), (0, .ref (X.1 0)), (1, .int (nI r))]) (st' := []) rfl ?_
  refine x_lv (a := [(2, .int (0)), (0, .ref (X.1 0)), (1, .int (nI r))]) rfl rfl ⟨rfl, rfl, rfl, trivial⟩ ?_
  exact l_blk R hr _ 0 (by omega)
theorem l_need (R : Rep u v X P M z h) {r : Nat} (hr : r < 8) (q : Int32) : ∀ (m : Nat) (i : Nat) (acc : Int64), i + m = pn P → Wx (d + 4) 25 5 [(5, .int (nI i)), (3, .long (acc)), (0, .ref (X.1 0)), (1, .int (nI r)), (2, .int (q))] [] h (fun r0 => r0 = (.inl (some (.long (p_need P r q m i acc))), h)) := by
  intro m
  induction m with
  | zero =>
    intro i acc hm
    have n60 := R.n60
    refine x_run 2 (pc' := 8) (lv' := [(5, .int (nI i)), (3, .long (acc)), (0, .ref (X.1 0)), (1, .int (nI r)), (2, .int (q))]) (st' := [.ref (X.1 0), .int (nI i)]) rfl ?_
    refine x_get (v := .int (nI (pn P))) rfl rfl R.c0 rfl ?_
    refine x_if (c := nI (pn P) ≤ nI i) (t := 77) rfl rfl (fun c1 => ?_) (fun c1 => ?_)
    · replace c1 := (nI_leI (by omega) (by omega)).mp c1
      refine x_run 1 (pc' := 78) (lv' := [(5, .int (nI i)), (3, .long (acc)), (0, .ref (X.1 0)), (1, .int (nI r)), (2, .int (q))]) (st' := [.long (acc)]) rfl ?_
      refine x_ret (v := some (.long (acc))) rfl rfl rfl ?_
      simp [p_need, c1]
    · replace c1 := mt (nI_leI (by omega) (by omega)).mpr c1
      omega
  | succ m ih =>
    intro i acc hm
    have n60 := R.n60
    have hi : i < pn P := by omega
    have r8 := R.wP.rk hi
    have p4 := R.wP.pc (pN P 0 i)
    refine x_run 2 (pc' := 8) (lv' := [(5, .int (nI i)), (3, .long (acc)), (0, .ref (X.1 0)), (1, .int (nI r)), (2, .int (q))]) (st' := [.ref (X.1 0), .int (nI i)]) rfl ?_
    refine x_get (v := .int (nI (pn P))) rfl rfl R.c0 rfl ?_
    refine x_if (c := nI (pn P) ≤ nI i) (t := 77) rfl rfl (fun c1 => ?_) (fun c1 => ?_)
    · replace c1 := (nI_leI (by omega) (by omega)).mp c1
      omega
    · replace c1 := mt (nI_leI (by omega) (by omega)).mpr c1
      refine x_run 1 (pc' := 15) (lv' := [(5, .int (nI i)), (3, .long (acc)), (0, .ref (X.1 0)), (1, .int (nI r)), (2, .int (q))]) (st' := [.ref (X.1 0)]) rfl ?_
      refine x_get (v := .ref (X.1 1)) rfl rfl R.c0 rfl ?_
      refine x_run 1 (pc' := 20) (lv' := [(5, .int (nI i)), (3, .long (acc)), (0, .ref (X.1 0)), (1, .int (nI r)), (2, .int (q))]) (st' := [.int (nI i), .ref (X.1 1)]) rfl ?_
      refine x_aald3 (j := i) rfl R.c1 (mm_idx_nI (by omega) (by omega)) ?_
      rw [if_pos hi]
      refine x_run 2 (pc' := 25) (lv' := [(6, .ref (X.1 (100 + i))), (5, .int (nI i)), (3, .long (acc)), (0, .ref (X.1 0)), (1, .int (nI r)), (2, .int (q))]) (st' := [.ref (X.1 (100 + i))]) rfl ?_
      refine x_get (v := .int (nI (pN P 0 i))) rfl rfl (R.cC hi) rfl ?_
      refine x_run 1 (pc' := 29) (lv' := [(6, .ref (X.1 (100 + i))), (5, .int (nI i)), (3, .long (acc)), (0, .ref (X.1 0)), (1, .int (nI r)), (2, .int (q))]) (st' := [.int (nI r), .int (nI (pN P 0 i))]) rfl ?_
      refine x_if (c := nI r ≤ nI (pN P 0 i)) (t := 53) rfl rfl (fun c2 => ?_) (fun c2 => ?_)
      · replace c2 := (nI_leI (by omega) (by omega)).mp c2
        refine x_run 1 (pc' := 55) (lv' := [(6, .ref (X.1 (100 + i))), (5, .int (nI i)), (3, .long (acc)), (0, .ref (X.1 0)), (1, .int (nI r)), (2, .int (q))]) (st' := [.ref (X.1 (100 + i))]) rfl ?_
        refine x_get (v := .int (nI (pN P 0 i))) rfl rfl (R.cC hi) rfl ?_
        refine x_run 1 (pc' := 59) (lv' := [(6, .ref (X.1 (100 + i))), (5, .int (nI i)), (3, .long (acc)), (0, .ref (X.1 0)), (1, .int (nI r)), (2, .int (q))]) (st' := [.int (nI r), .int (nI (pN P 0 i))]) rfl ?_
        refine x_if (c := ¬ nI (pN P 0 i) = nI r) (t := 71) rfl rfl (fun c3 => ?_) (fun c3 => ?_)
        · replace c3 := mt (nI_eq (by omega) (by omega)).mpr c3
          refine x_run 1 (pc' := 74) (lv' := [(5, .int (nI i + 1)), (6, .ref (X.1 (100 + i))), (3, .long (acc)), (0, .ref (X.1 0)), (1, .int (nI r)), (2, .int (q))]) (st' := []) rfl ?_
          rw [nI_1]
          refine x_run 1 (pc' := 5) (lv' := [(5, .int (nI (i + 1))), (6, .ref (X.1 (100 + i))), (3, .long (acc)), (0, .ref (X.1 0)), (1, .int (nI r)), (2, .int (q))]) (st' := []) rfl ?_
          refine x_lv (a := [(5, .int (nI (i + 1))), (3, .long (acc)), (0, .ref (X.1 0)), (1, .int (nI r)), (2, .int (q))]) rfl rfl ⟨rfl, rfl, rfl, rfl, rfl, trivial⟩ ?_
          rw [show p_need P r q (m + 1) i acc = p_need P r q m (i + 1) (acc) from by rw [p_need]; first | rw [if_pos (by omega)] | rw [if_neg (by omega), if_pos (by omega)] | rw [if_neg (by omega), if_neg (by omega)]]
          exact ih (i + 1) _ (by omega)
        · replace c3 := (nI_eq (by omega) (by omega)).mp (Classical.not_not.mp c3)
          refine x_run 3 (pc' := 66) (lv' := [(6, .ref (X.1 (100 + i))), (5, .int (nI i)), (3, .long (acc)), (0, .ref (X.1 0)), (1, .int (nI r)), (2, .int (q))]) (st' := [.int (q), .ref (X.1 (100 + i)), .long (acc)]) rfl ?_
          refine x_rd (v := .long (p_lack P i q)) (k' := 44) (as := [.ref (X.1 (100 + i)), .int (q)]) (rest := [.long (acc)]) (x_isV (np := 1) rfl rfl rfl (R.cC hi) rfl) (c_lack R hi q) ?_
          refine x_run 3 (pc' := 74) (lv' := [(5, .int (nI i + 1)), (3, .long (acc + (p_lack P i q))), (6, .ref (X.1 (100 + i))), (0, .ref (X.1 0)), (1, .int (nI r)), (2, .int (q))]) (st' := []) rfl ?_
          rw [nI_1]
          refine x_run 1 (pc' := 5) (lv' := [(5, .int (nI (i + 1))), (3, .long (acc + (p_lack P i q))), (6, .ref (X.1 (100 + i))), (0, .ref (X.1 0)), (1, .int (nI r)), (2, .int (q))]) (st' := []) rfl ?_
          refine x_lv (a := [(5, .int (nI (i + 1))), (3, .long (acc + (p_lack P i q))), (0, .ref (X.1 0)), (1, .int (nI r)), (2, .int (q))]) rfl rfl ⟨rfl, rfl, rfl, rfl, rfl, trivial⟩ ?_
          rw [show p_need P r q (m + 1) i acc = p_need P r q m (i + 1) (acc + (p_lack P i q)) from by rw [p_need]; first | rw [if_pos (by omega)] | rw [if_neg (by omega), if_pos (by omega)] | rw [if_neg (by omega), if_neg (by omega)]]
          exact ih (i + 1) _ (by omega)
      · replace c2 := mt (nI_leI (by omega) (by omega)).mpr c2
        refine x_run 3 (pc' := 36) (lv' := [(6, .ref (X.1 (100 + i))), (5, .int (nI i)), (3, .long (acc)), (0, .ref (X.1 0)), (1, .int (nI r)), (2, .int (q))]) (st' := [.ref (X.1 0), .ref (X.1 (100 + i)), .long (acc)]) rfl ?_
        refine x_get (v := .ref (X.1 3)) rfl rfl R.c0 rfl ?_
        refine x_run 1 (pc' := 41) (lv' := [(6, .ref (X.1 (100 + i))), (5, .int (nI i)), (3, .long (acc)), (0, .ref (X.1 0)), (1, .int (nI r)), (2, .int (q))]) (st' := [.ref (X.1 (100 + i)), .ref (X.1 3), .ref (X.1 (100 + i)), .long (acc)]) rfl ?_
        refine x_get (v := .int (nI (pN P 0 i))) rfl rfl (R.cC hi) rfl ?_
        refine x_iald (j := pN P 0 i) rfl R.c3 (mm_idx_nI (by omega) (by omega)) ?_
        refine x_rd (v := .long (p_lack P i (nI (pN P 3 (pN P 0 i))))) (k' := 44) (as := [.ref (X.1 (100 + i)), .int (nI (pN P 3 (pN P 0 i)))]) (rest := [.long (acc)]) (x_isV (np := 1) rfl rfl rfl (R.cC hi) rfl) (c_lack R hi (nI (pN P 3 (pN P 0 i)))) ?_
        refine x_run 4 (pc' := 74) (lv' := [(5, .int (nI i + 1)), (3, .long (acc + (p_lack P i (nI (pN P 3 (pN P 0 i)))))), (6, .ref (X.1 (100 + i))), (0, .ref (X.1 0)), (1, .int (nI r)), (2, .int (q))]) (st' := []) rfl ?_
        rw [nI_1]
        refine x_run 1 (pc' := 5) (lv' := [(5, .int (nI (i + 1))), (3, .long (acc + (p_lack P i (nI (pN P 3 (pN P 0 i)))))), (6, .ref (X.1 (100 + i))), (0, .ref (X.1 0)), (1, .int (nI r)), (2, .int (q))]) (st' := []) rfl ?_
        refine x_lv (a := [(5, .int (nI (i + 1))), (3, .long (acc + (p_lack P i (nI (pN P 3 (pN P 0 i)))))), (0, .ref (X.1 0)), (1, .int (nI r)), (2, .int (q))]) rfl rfl ⟨rfl, rfl, rfl, rfl, rfl, trivial⟩ ?_
        rw [show p_need P r q (m + 1) i acc = p_need P r q m (i + 1) (acc + (p_lack P i (nI (pN P 3 (pN P 0 i))))) from by rw [p_need]; first | rw [if_pos (by omega)] | rw [if_neg (by omega), if_pos (by omega)] | rw [if_neg (by omega), if_neg (by omega)]]
        exact ih (i + 1) _ (by omega)
theorem c_need (R : Rep u v X P M z h) {r : Nat} (hr : r < 8) (q : Int32) : Wx (d + 4) 25 0 (lv_args 0 [.ref (X.1 0), .int (nI r), .int (q)]) [] h (fun r0 => r0 = (.inl (some (.long (p_need P r q (pn P) 0 0))), h)) := by
  show Wx _ _ 0 [(0, .ref (X.1 0)), (1, .int (nI r)), (2, .int (q))] [] h _
  refine x_run 4 (pc' := 5) (lv' := [(5, .int (0)), (3, .long (0)), (0, .ref (X.1 0)), (1, .int (nI r)), (2, .int (q))]) (st' := []) rfl ?_
  refine x_lv (a := [(5, .int (0)), (3, .long (0)), (0, .ref (X.1 0)), (1, .int (nI r)), (2, .int (q))]) rfl rfl ⟨rfl, rfl, rfl, rfl, rfl, trivial⟩ ?_
  exact l_need R hr q _ 0 0 (by omega)
theorem l_all4 (R : Rep u v X P M z h) : ∀ (m : Nat) (i : Nat) (acc : Int64), i + m = pn P → Wx (d) 36 4 [(3, .int (nI i)), (1, .long (acc)), (0, .ref (X.1 0))] [] h (fun r0 => r0 = (.inl (some (.long (p_all P 4 m i acc))), h)) := by
  intro m
  induction m with
  | zero =>
    intro i acc hm
    have n60 := R.n60
    refine x_run 2 (pc' := 6) (lv' := [(3, .int (nI i)), (1, .long (acc)), (0, .ref (X.1 0))]) (st' := [.ref (X.1 0), .int (nI i)]) rfl ?_
    refine x_get (v := .int (nI (pn P))) rfl rfl R.c0 rfl ?_
    refine x_if (c := nI (pn P) ≤ nI i) (t := 30) rfl rfl (fun c1 => ?_) (fun c1 => ?_)
    · replace c1 := (nI_leI (by omega) (by omega)).mp c1
      refine x_run 1 (pc' := 31) (lv' := [(3, .int (nI i)), (1, .long (acc)), (0, .ref (X.1 0))]) (st' := [.long (acc)]) rfl ?_
      refine x_ret (v := some (.long (acc))) rfl rfl rfl ?_
      simp [p_all, c1]
    · replace c1 := mt (nI_leI (by omega) (by omega)).mpr c1
      omega
  | succ m ih =>
    intro i acc hm
    have n60 := R.n60
    have hi : i < pn P := by omega
    refine x_run 2 (pc' := 6) (lv' := [(3, .int (nI i)), (1, .long (acc)), (0, .ref (X.1 0))]) (st' := [.ref (X.1 0), .int (nI i)]) rfl ?_
    refine x_get (v := .int (nI (pn P))) rfl rfl R.c0 rfl ?_
    refine x_if (c := nI (pn P) ≤ nI i) (t := 30) rfl rfl (fun c1 => ?_) (fun c1 => ?_)
    · replace c1 := (nI_leI (by omega) (by omega)).mp c1
      omega
    · replace c1 := mt (nI_leI (by omega) (by omega)).mpr c1
      refine x_run 2 (pc' := 14) (lv' := [(3, .int (nI i)), (1, .long (acc)), (0, .ref (X.1 0))]) (st' := [.ref (X.1 0), .long (acc)]) rfl ?_
      refine x_get (v := .ref (X.1 1)) rfl rfl R.c0 rfl ?_
      refine x_run 1 (pc' := 18) (lv' := [(3, .int (nI i)), (1, .long (acc)), (0, .ref (X.1 0))]) (st' := [.int (nI i), .ref (X.1 1), .long (acc)]) rfl ?_
      refine x_aald3 (j := i) rfl R.c1 (mm_idx_nI (by omega) (by omega)) ?_
      rw [if_pos hi]
      refine x_get (v := .long (pL P 4 i)) rfl rfl (R.cC hi) rfl ?_
      refine x_run 3 (pc' := 27) (lv' := [(3, .int (nI i + 1)), (1, .long (acc + (pL P 4 i))), (0, .ref (X.1 0))]) (st' := []) rfl ?_
      rw [nI_1]
      refine x_run 1 (pc' := 4) (lv' := [(3, .int (nI (i + 1))), (1, .long (acc + (pL P 4 i))), (0, .ref (X.1 0))]) (st' := []) rfl ?_
      refine x_lv (a := [(3, .int (nI (i + 1))), (1, .long (acc + (pL P 4 i))), (0, .ref (X.1 0))]) rfl rfl ⟨rfl, rfl, rfl, trivial⟩ ?_
      exact ih (i + 1) _ (by omega)
theorem c_all4 (R : Rep u v X P M z h) : Wx (d) 36 0 (lv_args 0 [.ref (X.1 0)]) [] h (fun r0 => r0 = (.inl (some (.long (p_all P 4 (pn P) 0 0))), h)) := by
  show Wx _ _ 0 [(0, .ref (X.1 0))] [] h _
  refine x_run 4 (pc' := 4) (lv' := [(3, .int (0)), (1, .long (0)), (0, .ref (X.1 0))]) (st' := []) rfl ?_
  refine x_lv (a := [(3, .int (0)), (1, .long (0)), (0, .ref (X.1 0))]) rfl rfl ⟨rfl, rfl, rfl, trivial⟩ ?_
  exact l_all4 R _ 0 0 (by omega)
theorem l_all2 (R : Rep u v X P M z h) : ∀ (m : Nat) (i : Nat) (acc : Int64), i + m = pn P → Wx (d) 37 4 [(3, .int (nI i)), (1, .long (acc)), (0, .ref (X.1 0))] [] h (fun r0 => r0 = (.inl (some (.long (p_all P 2 m i acc))), h)) := by
  intro m
  induction m with
  | zero =>
    intro i acc hm
    have n60 := R.n60
    refine x_run 2 (pc' := 6) (lv' := [(3, .int (nI i)), (1, .long (acc)), (0, .ref (X.1 0))]) (st' := [.ref (X.1 0), .int (nI i)]) rfl ?_
    refine x_get (v := .int (nI (pn P))) rfl rfl R.c0 rfl ?_
    refine x_if (c := nI (pn P) ≤ nI i) (t := 30) rfl rfl (fun c1 => ?_) (fun c1 => ?_)
    · replace c1 := (nI_leI (by omega) (by omega)).mp c1
      refine x_run 1 (pc' := 31) (lv' := [(3, .int (nI i)), (1, .long (acc)), (0, .ref (X.1 0))]) (st' := [.long (acc)]) rfl ?_
      refine x_ret (v := some (.long (acc))) rfl rfl rfl ?_
      simp [p_all, c1]
    · replace c1 := mt (nI_leI (by omega) (by omega)).mpr c1
      omega
  | succ m ih =>
    intro i acc hm
    have n60 := R.n60
    have hi : i < pn P := by omega
    refine x_run 2 (pc' := 6) (lv' := [(3, .int (nI i)), (1, .long (acc)), (0, .ref (X.1 0))]) (st' := [.ref (X.1 0), .int (nI i)]) rfl ?_
    refine x_get (v := .int (nI (pn P))) rfl rfl R.c0 rfl ?_
    refine x_if (c := nI (pn P) ≤ nI i) (t := 30) rfl rfl (fun c1 => ?_) (fun c1 => ?_)
    · replace c1 := (nI_leI (by omega) (by omega)).mp c1
      omega
    · replace c1 := mt (nI_leI (by omega) (by omega)).mpr c1
      refine x_run 2 (pc' := 14) (lv' := [(3, .int (nI i)), (1, .long (acc)), (0, .ref (X.1 0))]) (st' := [.ref (X.1 0), .long (acc)]) rfl ?_
      refine x_get (v := .ref (X.1 1)) rfl rfl R.c0 rfl ?_
      refine x_run 1 (pc' := 18) (lv' := [(3, .int (nI i)), (1, .long (acc)), (0, .ref (X.1 0))]) (st' := [.int (nI i), .ref (X.1 1), .long (acc)]) rfl ?_
      refine x_aald3 (j := i) rfl R.c1 (mm_idx_nI (by omega) (by omega)) ?_
      rw [if_pos hi]
      refine x_get (v := .long (pL P 2 i)) rfl rfl (R.cC hi) rfl ?_
      refine x_run 3 (pc' := 27) (lv' := [(3, .int (nI i + 1)), (1, .long (acc + (pL P 2 i))), (0, .ref (X.1 0))]) (st' := []) rfl ?_
      rw [nI_1]
      refine x_run 1 (pc' := 4) (lv' := [(3, .int (nI (i + 1))), (1, .long (acc + (pL P 2 i))), (0, .ref (X.1 0))]) (st' := []) rfl ?_
      refine x_lv (a := [(3, .int (nI (i + 1))), (1, .long (acc + (pL P 2 i))), (0, .ref (X.1 0))]) rfl rfl ⟨rfl, rfl, rfl, trivial⟩ ?_
      exact ih (i + 1) _ (by omega)
theorem c_all2 (R : Rep u v X P M z h) : Wx (d) 37 0 (lv_args 0 [.ref (X.1 0)]) [] h (fun r0 => r0 = (.inl (some (.long (p_all P 2 (pn P) 0 0))), h)) := by
  show Wx _ _ 0 [(0, .ref (X.1 0))] [] h _
  refine x_run 4 (pc' := 4) (lv' := [(3, .int (0)), (1, .long (0)), (0, .ref (X.1 0))]) (st' := []) rfl ?_
  refine x_lv (a := [(3, .int (0)), (1, .long (0)), (0, .ref (X.1 0))]) rfl rfl ⟨rfl, rfl, rfl, trivial⟩ ?_
  exact l_all2 R _ 0 0 (by omega)
theorem l_all3 (R : Rep u v X P M z h) : ∀ (m : Nat) (i : Nat) (acc : Int64), i + m = pn P → Wx (d) 38 4 [(3, .int (nI i)), (1, .long (acc)), (0, .ref (X.1 0))] [] h (fun r0 => r0 = (.inl (some (.long (p_all P 3 m i acc))), h)) := by
  intro m
  induction m with
  | zero =>
    intro i acc hm
    have n60 := R.n60
    refine x_run 2 (pc' := 6) (lv' := [(3, .int (nI i)), (1, .long (acc)), (0, .ref (X.1 0))]) (st' := [.ref (X.1 0), .int (nI i)]) rfl ?_
    refine x_get (v := .int (nI (pn P))) rfl rfl R.c0 rfl ?_
    refine x_if (c := nI (pn P) ≤ nI i) (t := 30) rfl rfl (fun c1 => ?_) (fun c1 => ?_)
    · replace c1 := (nI_leI (by omega) (by omega)).mp c1
      refine x_run 1 (pc' := 31) (lv' := [(3, .int (nI i)), (1, .long (acc)), (0, .ref (X.1 0))]) (st' := [.long (acc)]) rfl ?_
      refine x_ret (v := some (.long (acc))) rfl rfl rfl ?_
      simp [p_all, c1]
    · replace c1 := mt (nI_leI (by omega) (by omega)).mpr c1
      omega
  | succ m ih =>
    intro i acc hm
    have n60 := R.n60
    have hi : i < pn P := by omega
    refine x_run 2 (pc' := 6) (lv' := [(3, .int (nI i)), (1, .long (acc)), (0, .ref (X.1 0))]) (st' := [.ref (X.1 0), .int (nI i)]) rfl ?_
    refine x_get (v := .int (nI (pn P))) rfl rfl R.c0 rfl ?_
    refine x_if (c := nI (pn P) ≤ nI i) (t := 30) rfl rfl (fun c1 => ?_) (fun c1 => ?_)
    · replace c1 := (nI_leI (by omega) (by omega)).mp c1
      omega
    · replace c1 := mt (nI_leI (by omega) (by omega)).mpr c1
      refine x_run 2 (pc' := 14) (lv' := [(3, .int (nI i)), (1, .long (acc)), (0, .ref (X.1 0))]) (st' := [.ref (X.1 0), .long (acc)]) rfl ?_
      refine x_get (v := .ref (X.1 1)) rfl rfl R.c0 rfl ?_
      refine x_run 1 (pc' := 18) (lv' := [(3, .int (nI i)), (1, .long (acc)), (0, .ref (X.1 0))]) (st' := [.int (nI i), .ref (X.1 1), .long (acc)]) rfl ?_
      refine x_aald3 (j := i) rfl R.c1 (mm_idx_nI (by omega) (by omega)) ?_
      rw [if_pos hi]
      refine x_get (v := .long (pL P 3 i)) rfl rfl (R.cC hi) rfl ?_
      refine x_run 3 (pc' := 27) (lv' := [(3, .int (nI i + 1)), (1, .long (acc + (pL P 3 i))), (0, .ref (X.1 0))]) (st' := []) rfl ?_
      rw [nI_1]
      refine x_run 1 (pc' := 4) (lv' := [(3, .int (nI (i + 1))), (1, .long (acc + (pL P 3 i))), (0, .ref (X.1 0))]) (st' := []) rfl ?_
      refine x_lv (a := [(3, .int (nI (i + 1))), (1, .long (acc + (pL P 3 i))), (0, .ref (X.1 0))]) rfl rfl ⟨rfl, rfl, rfl, trivial⟩ ?_
      exact ih (i + 1) _ (by omega)
theorem c_all3 (R : Rep u v X P M z h) : Wx (d) 38 0 (lv_args 0 [.ref (X.1 0)]) [] h (fun r0 => r0 = (.inl (some (.long (p_all P 3 (pn P) 0 0))), h)) := by
  show Wx _ _ 0 [(0, .ref (X.1 0))] [] h _
  refine x_run 4 (pc' := 4) (lv' := [(3, .int (0)), (1, .long (0)), (0, .ref (X.1 0))]) (st' := []) rfl ?_
  refine x_lv (a := [(3, .int (0)), (1, .long (0)), (0, .ref (X.1 0))]) rfl rfl ⟨rfl, rfl, rfl, trivial⟩ ?_
  exact l_all3 R _ 0 0 (by omega)
end CLS1
