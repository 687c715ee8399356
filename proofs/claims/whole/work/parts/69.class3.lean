section CLS3
variable {u v d : Nat} {X : xX} {P M : pP} {z : zZ} {h : mm_H} {i j : Nat}
theorem l_give {c : Int64} {Q : mm_O × mm_H → Prop} : ∀ (m : Nat) (k : Nat) (acc : Int64) (P : pP) (h : mm_H), Rep u (v + m) X P M z h → k + m = pN P 1 j ∧ j < pa P → (∀ h, Rep u v X ((p_give j c m k P acc).1) M z h → Wx (d + 2) 28 99 [(6, .int (nI (k + m))), (4, .long (p_give j c m k P acc).2), (0, .ref (X.1 0)), (1, .ref (X.1 (200 + j))), (2, .long c)] [] h Q) → Wx (d + 2) 28 6 [(6, .int (nI k)), (4, .long (acc)), (0, .ref (X.1 0)), (1, .ref (X.1 (200 + j))), (2, .long (c))] [] h Q := by
  intro m
  induction m with
  | zero =>
    intro k acc P h R hm kk
    obtain ⟨hm, hj⟩ := hm
    have mn := R.wP.mn hj
    refine x_run 2 (pc' := 9) (lv' := [(6, .int (nI k)), (4, .long (acc)), (0, .ref (X.1 0)), (1, .ref (X.1 (200 + j))), (2, .long (c))]) (st' := [.ref (X.1 (200 + j)), .int (nI k)]) rfl ?_
    refine x_get (v := .int (nI (pN P 1 j))) rfl rfl (R.cA hj) rfl ?_
    refine x_if (c := nI (pN P 1 j) ≤ nI k) (t := 99) rfl rfl (fun c1 => ?_) (fun c1 => ?_)
    · replace c1 := (nI_leI (by omega) (by omega)).mp c1
      refine x_lv (a := [(6, .int (nI k)), (4, .long (acc)), (0, .ref (X.1 0)), (1, .ref (X.1 (200 + j))), (2, .long (c))]) rfl rfl ⟨rfl, rfl, rfl, rfl, rfl, trivial⟩ ?_
      exact kk h R
    · replace c1 := mt (nI_leI (by omega) (by omega)).mpr c1
      omega
  | succ m ih =>
    intro k acc P h R hm kk
    have R : Rep u (v + m + 1) X P M z h := R
    obtain ⟨hm, hj⟩ := hm
    have mn := R.wP.mn hj
    have hk : k < pN P 1 j := by omega
    have hd := R.wP.hd hj hk
    rw [show k + (m + 1) = k + 1 + m by omega] at kk
    refine x_run 2 (pc' := 9) (lv' := [(6, .int (nI k)), (4, .long (acc)), (0, .ref (X.1 0)), (1, .ref (X.1 (200 + j))), (2, .long (c))]) (st' := [.ref (X.1 (200 + j)), .int (nI k)]) rfl ?_
    refine x_get (v := .int (nI (pN P 1 j))) rfl rfl (R.cA hj) rfl ?_
    refine x_if (c := nI (pN P 1 j) ≤ nI k) (t := 99) rfl rfl (fun c1 => ?_) (fun c1 => ?_)
    · replace c1 := (nI_leI (by omega) (by omega)).mp c1
      omega
    · replace c1 := mt (nI_leI (by omega) (by omega)).mpr c1
      refine x_run 1 (pc' := 16) (lv' := [(6, .int (nI k)), (4, .long (acc)), (0, .ref (X.1 0)), (1, .ref (X.1 (200 + j))), (2, .long (c))]) (st' := [.ref (X.1 (200 + j))]) rfl ?_
      refine x_get (v := .ref (X.1 (300 + j))) rfl rfl (R.cA hj) rfl ?_
      refine x_run 1 (pc' := 21) (lv' := [(6, .int (nI k)), (4, .long (acc)), (0, .ref (X.1 0)), (1, .ref (X.1 (200 + j))), (2, .long (c))]) (st' := [.int (nI k), .ref (X.1 (300 + j))]) rfl ?_
      refine x_aald3 (j := k) rfl (R.cH hj) (mm_idx_nI (by omega) (by omega)) ?_
      rw [if_pos hk]
      refine x_run 2 (pc' := 25) (lv' := [(7, .ref (X.1 (100 + pN P 2 (4 * j + k)))), (6, .int (nI k)), (4, .long (acc)), (0, .ref (X.1 0)), (1, .ref (X.1 (200 + j))), (2, .long (c))]) (st' := [.ref (X.1 (200 + j))]) rfl ?_
      refine x_get (v := .ref (X.1 (400 + j))) rfl rfl (R.cA hj) rfl ?_
      refine x_run 1 (pc' := 30) (lv' := [(7, .ref (X.1 (100 + pN P 2 (4 * j + k)))), (6, .int (nI k)), (4, .long (acc)), (0, .ref (X.1 0)), (1, .ref (X.1 (200 + j))), (2, .long (c))]) (st' := [.int (nI k), .ref (X.1 (400 + j))]) rfl ?_
      refine x_lald (j := k) rfl (R.cL hj) (mm_idx_nI (by omega) (by omega)) ?_
      rw [if_pos (show k < 4 by omega)]
      refine x_run 1 (pc' := 33) (lv' := [(7, .ref (X.1 (100 + pN P 2 (4 * j + k)))), (6, .int (nI k)), (4, .long (acc)), (0, .ref (X.1 0)), (1, .ref (X.1 (200 + j))), (2, .long (c))]) (st' := [.ref (X.1 (100 + pN P 2 (4 * j + k))), .long (pL P 5 (4 * j + k))]) rfl ?_
      refine x_rd (v := .long (p_net P (pN P 2 (4 * j + k)))) (k' := 42) (as := [.ref (X.1 (100 + pN P 2 (4 * j + k)))]) (rest := [.long (pL P 5 (4 * j + k))]) (x_isV (np := 0) rfl rfl rfl (R.cC hd) rfl) (c_net R hd) ?_
      refine x_min rfl rfl rfl ?_
      refine x_run 3 (pc' := 43) (lv' := [(7, .ref (X.1 (100 + pN P 2 (4 * j + k)))), (6, .int (nI k)), (4, .long (acc)), (0, .ref (X.1 0)), (1, .ref (X.1 (200 + j))), (2, .long (c))]) (st' := [.long (c - acc), .long (if p_net P (pN P 2 (4 * j + k)) < pL P 5 (4 * j + k) then p_net P (pN P 2 (4 * j + k)) else pL P 5 (4 * j + k))]) rfl ?_
      refine x_min rfl rfl rfl ?_
      refine x_run 3 (pc' := 51) (lv' := [(8, .long (p_part P (4 * j + k) (c - acc))), (7, .ref (X.1 (100 + pN P 2 (4 * j + k)))), (6, .int (nI k)), (4, .long (acc)), (0, .ref (X.1 0)), (1, .ref (X.1 (200 + j))), (2, .long (c))]) (st' := [.ref (X.1 (100 + pN P 2 (4 * j + k))), .ref (X.1 (100 + pN P 2 (4 * j + k)))]) rfl ?_
      refine x_get (v := .long (pL P 2 (pN P 2 (4 * j + k)))) rfl rfl (R.cC hd) rfl ?_
      refine x_run 2 (pc' := 57) (lv' := [(8, .long (p_part P (4 * j + k) (c - acc))), (7, .ref (X.1 (100 + pN P 2 (4 * j + k)))), (6, .int (nI k)), (4, .long (acc)), (0, .ref (X.1 0)), (1, .ref (X.1 (200 + j))), (2, .long (c))]) (st' := [.long ((pL P 2 (pN P 2 (4 * j + k))) + (p_part P (4 * j + k) (c - acc))), .ref (X.1 (100 + pN P 2 (4 * j + k)))]) rfl ?_
      refine x_put rfl rfl (R.cC hd) rfl ?_
      refine gen_h (A := Rep u (v + m + 1) X (sL P 2 (pN P 2 (4 * j + k)) ((pL P 2 (pN P 2 (4 * j + k))) + (p_part P (4 * j + k) (c - acc)))) M z) (R.uGot hd _) (fun h R => ?_)
      refine x_run 2 (pc' := 63) (lv' := [(8, .long (p_part P (4 * j + k) (c - acc))), (7, .ref (X.1 (100 + pN P 2 (4 * j + k)))), (6, .int (nI k)), (4, .long (acc)), (0, .ref (X.1 0)), (1, .ref (X.1 (200 + j))), (2, .long (c))]) (st' := [.ref (X.1 (100 + pN P 2 (4 * j + k))), .ref (X.1 (100 + pN P 2 (4 * j + k)))]) rfl ?_
      refine x_get (v := .int (pI P 5 (pN P 2 (4 * j + k)))) rfl rfl (R.cC hd) rfl ?_
      refine x_run 2 (pc' := 68) (lv' := [(8, .long (p_part P (4 * j + k) (c - acc))), (7, .ref (X.1 (100 + pN P 2 (4 * j + k)))), (6, .int (nI k)), (4, .long (acc)), (0, .ref (X.1 0)), (1, .ref (X.1 (200 + j))), (2, .long (c))]) (st' := [.int ((pI P 5 (pN P 2 (4 * j + k))) - 1), .ref (X.1 (100 + pN P 2 (4 * j + k)))]) rfl ?_
      refine x_put rfl rfl (R.cC hd) rfl ?_
      refine gen_h (A := Rep u (v + m + 1) X (sI (sL P 2 (pN P 2 (4 * j + k)) ((pL P 2 (pN P 2 (4 * j + k))) + (p_part P (4 * j + k) (c - acc)))) 5 (pN P 2 (4 * j + k)) ((pI P 5 (pN P 2 (4 * j + k))) - 1)) M z) (R.uUnre hd _) (fun h R => ?_)
      refine x_run 5 (pc' := 79) (lv' := [(4, .long (acc + (p_part P (4 * j + k) (c - acc)))), (8, .long (p_part P (4 * j + k) (c - acc))), (7, .ref (X.1 (100 + pN P 2 (4 * j + k)))), (6, .int (nI k)), (0, .ref (X.1 0)), (1, .ref (X.1 (200 + j))), (2, .long (c))]) (st' := [.ref (X.1 0)]) rfl ?_
      refine x_get (v := .ref (X.1 4)) rfl rfl R.c0 rfl ?_
      refine x_run 2 (pc' := 85) (lv' := [(4, .long (acc + (p_part P (4 * j + k) (c - acc)))), (8, .long (p_part P (4 * j + k) (c - acc))), (7, .ref (X.1 (100 + pN P 2 (4 * j + k)))), (6, .int (nI k)), (0, .ref (X.1 0)), (1, .ref (X.1 (200 + j))), (2, .long (c))]) (st' := [.ref (X.1 (100 + pN P 2 (4 * j + k))), .int (2), .ref (X.1 4)]) rfl ?_
      refine x_get (v := .int (nI (pN P 2 (4 * j + k)))) rfl rfl (R.cC hd) rfl ?_
      refine x_run 1 (pc' := 90) (lv' := [(4, .long (acc + (p_part P (4 * j + k) (c - acc)))), (8, .long (p_part P (4 * j + k) (c - acc))), (7, .ref (X.1 (100 + pN P 2 (4 * j + k)))), (6, .int (nI k)), (0, .ref (X.1 0)), (1, .ref (X.1 (200 + j))), (2, .long (c))]) (st' := [.long (p_part P (4 * j + k) (c - acc)), .int (nI (pN P 2 (4 * j + k))), .int (2), .ref (X.1 4)]) rfl ?_
      refine x_wr0 (A := Rep u (v + m) X (p_note (sI (sL P 2 (pN P 2 (4 * j + k)) ((pL P 2 (pN P 2 (4 * j + k))) + (p_part P (4 * j + k) (c - acc)))) 5 (pN P 2 (4 * j + k)) ((pI P 5 (pN P 2 (4 * j + k))) - 1)) 2 (nI (pN P 2 (4 * j + k))) (p_part P (4 * j + k) (c - acc))) M z) (k' := 51) (as := [.ref (X.1 4), .int (2), .int (nI (pN P 2 (4 * j + k))), .long (p_part P (4 * j + k) (c - acc))]) (rest := []) (x_isV (np := 3) rfl rfl rfl R.c4 rfl) (c_note R _ _ _) (fun h R => ?_)
      refine x_run 1 (pc' := 96) (lv' := [(6, .int (nI k + 1)), (4, .long (acc + (p_part P (4 * j + k) (c - acc)))), (8, .long (p_part P (4 * j + k) (c - acc))), (7, .ref (X.1 (100 + pN P 2 (4 * j + k)))), (0, .ref (X.1 0)), (1, .ref (X.1 (200 + j))), (2, .long (c))]) (st' := []) rfl ?_
      rw [nI_1]
      refine x_run 1 (pc' := 6) (lv' := [(6, .int (nI (k + 1))), (4, .long (acc + (p_part P (4 * j + k) (c - acc)))), (8, .long (p_part P (4 * j + k) (c - acc))), (7, .ref (X.1 (100 + pN P 2 (4 * j + k)))), (0, .ref (X.1 0)), (1, .ref (X.1 (200 + j))), (2, .long (c))]) (st' := []) rfl ?_
      refine x_lv (a := [(6, .int (nI (k + 1))), (4, .long (acc + (p_part P (4 * j + k) (c - acc)))), (0, .ref (X.1 0)), (1, .ref (X.1 (200 + j))), (2, .long (c))]) rfl rfl ⟨rfl, rfl, rfl, rfl, rfl, trivial⟩ ?_
      rw [show p_give j c (m + 1) k P acc = p_give j c m (k + 1) (p_note (sI (sL P 2 (pN P 2 (4 * j + k)) ((pL P 2 (pN P 2 (4 * j + k))) + (p_part P (4 * j + k) (c - acc)))) 5 (pN P 2 (4 * j + k)) ((pI P 5 (pN P 2 (4 * j + k))) - 1)) 2 (nI (pN P 2 (4 * j + k))) (p_part P (4 * j + k) (c - acc))) (acc + (p_part P (4 * j + k) (c - acc))) from rfl] at kk
      exact ih (k + 1) _ _ _ R ⟨(by show _ = pN P 1 j; omega), hj⟩ kk
theorem c_give (R : Rep u (v + 4) X P M z h) (hj : j < pa P) (c : Int64) : Wx (d + 2) 28 0 (lv_args 0 [.ref (X.1 0), .ref (X.1 (200 + j)), .long (c)]) [] h (fun r0 => r0.1 = .inl (some (.long ((p_give j c (pN P 1 j) 0 P 0).2))) ∧ Rep u v X ((p_give j c (pN P 1 j) 0 P 0).1) M z r0.2) := by
  have mn := R.wP.mn hj
  show Wx _ _ 0 [(0, .ref (X.1 0)), (1, .ref (X.1 (200 + j))), (2, .long (c))] [] h _
  refine x_run 4 (pc' := 6) (lv' := [(6, .int (0)), (4, .long (0)), (0, .ref (X.1 0)), (1, .ref (X.1 (200 + j))), (2, .long (c))]) (st' := []) rfl ?_
  refine x_lv (a := [(6, .int (0)), (4, .long (0)), (0, .ref (X.1 0)), (1, .ref (X.1 (200 + j))), (2, .long (c))]) rfl rfl ⟨rfl, rfl, rfl, rfl, rfl, trivial⟩ ?_
  refine l_give (v := v) (pN P 1 j) 0 0 P h (R.less (Nat.le_refl _) (by omega)) ⟨by omega, hj⟩ (fun h R => ?_)
  refine x_run 1 (pc' := 101) (lv' := [(6, .int (nI (0 + pN P 1 j))), (4, .long ((p_give j c (pN P 1 j) 0 P 0).2)), (0, .ref (X.1 0)), (1, .ref (X.1 (200 + j))), (2, .long (c))]) (st' := [.long ((p_give j c (pN P 1 j) 0 P 0).2)]) rfl ?_
  refine x_ret (v := some (.long ((p_give j c (pN P 1 j) 0 P 0).2))) rfl rfl rfl ⟨?_, ?_⟩
  · rfl
  · exact R
theorem l_drop  {Q : mm_O × mm_H → Prop} : ∀ (m : Nat) (i : Nat) (P : pP) (h : mm_H), Rep u (v + m) X P M z h → i + m = pn P → (∀ h, Rep u v X (p_drop m i P) M z h → Wx (d + 2) 31 45 [(1, .int (nI (i + m))), (0, .ref (X.1 0))] [] h Q) → Wx (d + 2) 31 2 [(1, .int (nI i)), (0, .ref (X.1 0))] [] h Q := by
  intro m
  induction m with
  | zero =>
    intro i P h R hm kk
    have n60 := R.n60
    refine x_run 2 (pc' := 4) (lv' := [(1, .int (nI i)), (0, .ref (X.1 0))]) (st' := [.ref (X.1 0), .int (nI i)]) rfl ?_
    refine x_get (v := .int (nI (pn P))) rfl rfl R.c0 rfl ?_
    refine x_if (c := nI (pn P) ≤ nI i) (t := 45) rfl rfl (fun c1 => ?_) (fun c1 => ?_)
    · replace c1 := (nI_leI (by omega) (by omega)).mp c1
      refine x_lv (a := [(1, .int (nI i)), (0, .ref (X.1 0))]) rfl rfl ⟨rfl, rfl, trivial⟩ ?_
      exact kk h R
    · replace c1 := mt (nI_leI (by omega) (by omega)).mpr c1
      omega
  | succ m ih =>
    intro i P h R hm kk
    have R : Rep u (v + m + 1) X P M z h := R
    have n60 := R.n60
    have hi : i < pn P := by omega
    rw [show i + (m + 1) = i + 1 + m by omega] at kk
    refine x_run 2 (pc' := 4) (lv' := [(1, .int (nI i)), (0, .ref (X.1 0))]) (st' := [.ref (X.1 0), .int (nI i)]) rfl ?_
    refine x_get (v := .int (nI (pn P))) rfl rfl R.c0 rfl ?_
    refine x_if (c := nI (pn P) ≤ nI i) (t := 45) rfl rfl (fun c1 => ?_) (fun c1 => ?_)
    · replace c1 := (nI_leI (by omega) (by omega)).mp c1
      omega
    · replace c1 := mt (nI_leI (by omega) (by omega)).mpr c1
      refine x_run 1 (pc' := 11) (lv' := [(1, .int (nI i)), (0, .ref (X.1 0))]) (st' := [.ref (X.1 0)]) rfl ?_
      refine x_get (v := .ref (X.1 1)) rfl rfl R.c0 rfl ?_
      refine x_run 1 (pc' := 15) (lv' := [(1, .int (nI i)), (0, .ref (X.1 0))]) (st' := [.int (nI i), .ref (X.1 1)]) rfl ?_
      refine x_aald3 (j := i) rfl R.c1 (mm_idx_nI (by omega) (by omega)) ?_
      rw [if_pos hi]
      refine x_run 2 (pc' := 18) (lv' := [(2, .ref (X.1 (100 + i))), (1, .int (nI i)), (0, .ref (X.1 0))]) (st' := [.ref (X.1 (100 + i))]) rfl ?_
      refine x_get (v := .int (pI P 0 i)) rfl rfl (R.cC hi) rfl ?_
      refine x_run 1 (pc' := 22) (lv' := [(2, .ref (X.1 (100 + i))), (1, .int (nI i)), (0, .ref (X.1 0))]) (st' := [.int (1), .int (pI P 0 i)]) rfl ?_
      refine x_if (c := ¬ pI P 0 i = 1) (t := 39) rfl rfl (fun c2 => ?_) (fun c2 => ?_)
      · refine x_run 1 (pc' := 42) (lv' := [(1, .int (nI i + 1)), (2, .ref (X.1 (100 + i))), (0, .ref (X.1 0))]) (st' := []) rfl ?_
        rw [nI_1]
        refine x_run 1 (pc' := 2) (lv' := [(1, .int (nI (i + 1))), (2, .ref (X.1 (100 + i))), (0, .ref (X.1 0))]) (st' := []) rfl ?_
        refine x_lv (a := [(1, .int (nI (i + 1))), (0, .ref (X.1 0))]) rfl rfl ⟨rfl, rfl, trivial⟩ ?_
        rw [show p_drop (m + 1) i P = p_drop m (i + 1) P from by rw [p_drop]; (rw [if_neg c2]) <;> rfl] at kk
        exact ih (i + 1) _ _ (R.less (Nat.le_refl _) (Nat.le_succ _)) (by show _ = pn P; omega) kk
      · refine x_run 2 (pc' := 27) (lv' := [(2, .ref (X.1 (100 + i))), (1, .int (nI i)), (0, .ref (X.1 0))]) (st' := [.int (2), .ref (X.1 (100 + i))]) rfl ?_
        refine x_put rfl rfl (R.cC hi) rfl ?_
        refine gen_h (A := Rep u (v + m + 1) X (sI P 0 i (2)) M z) (R.uState hi _) (fun h R => ?_)
        refine x_run 3 (pc' := 33) (lv' := [(2, .ref (X.1 (100 + i))), (1, .int (nI i)), (0, .ref (X.1 0))]) (st' := [.ref (X.1 (100 + i)), .ref (X.1 (100 + i)), .ref (X.1 0)]) rfl ?_
        refine x_get (v := .long (pL P 4 i)) rfl rfl (R.cC hi) rfl ?_
        refine x_wr0 (A := Rep u (v + m) X (p_release (sI P 0 i (2)) i (pL P 4 i)) M z) (k' := 30) (as := [.ref (X.1 0), .ref (X.1 (100 + i)), .long (pL P 4 i)]) (rest := []) (x_isV (np := 2) rfl rfl rfl R.c0 rfl) (c_release R hi _) (fun h R => ?_)
        refine x_run 1 (pc' := 42) (lv' := [(1, .int (nI i + 1)), (2, .ref (X.1 (100 + i))), (0, .ref (X.1 0))]) (st' := []) rfl ?_
        rw [nI_1]
        refine x_run 1 (pc' := 2) (lv' := [(1, .int (nI (i + 1))), (2, .ref (X.1 (100 + i))), (0, .ref (X.1 0))]) (st' := []) rfl ?_
        refine x_lv (a := [(1, .int (nI (i + 1))), (0, .ref (X.1 0))]) rfl rfl ⟨rfl, rfl, trivial⟩ ?_
        rw [show p_drop (m + 1) i P = p_drop m (i + 1) (p_release (sI P 0 i (2)) i (pL P 4 i)) from by rw [p_drop]; (rw [if_pos (Classical.not_not.mp c2)]) <;> rfl] at kk
        exact ih (i + 1) _ _ R (by show _ = pn P; omega) kk
theorem c_drop (R : Rep u (v + 60) X P M z h) : Wx (d + 2) 31 0 (lv_args 0 [.ref (X.1 0)]) [] h (fun r0 => r0.1 = .inl none ∧ Rep u v X (p_drop (pn P) 0 P) M z r0.2) := by
  have n60 := R.n60
  show Wx _ _ 0 [(0, .ref (X.1 0))] [] h _
  refine x_run 2 (pc' := 2) (lv' := [(1, .int (0)), (0, .ref (X.1 0))]) (st' := []) rfl ?_
  refine x_lv (a := [(1, .int (0)), (0, .ref (X.1 0))]) rfl rfl ⟨rfl, rfl, trivial⟩ ?_
  refine l_drop (v := v) (pn P) 0 P h (R.less (Nat.le_refl _) (by omega)) (by omega) (fun h R => ?_)
  refine x_ret (v := none) rfl rfl rfl ⟨?_, ?_⟩
  · rfl
  · exact R
theorem l_sumU (R : Rep u v X P M z h) {r : Nat} (hr : r < 8) {Q : mm_O × mm_H → Prop} : ∀ (m i : Nat) (acc : Int64), i + m = pn P → Wx (d + 3) 32 47 [(4, .int (nI (pn P))), (2, .long (p_sumU P r m i acc)), (0, .ref (X.1 0)), (1, .int (nI r))] [] h Q → Wx (d + 3) 32 5 [(4, .int (nI i)), (2, .long (acc)), (0, .ref (X.1 0)), (1, .int (nI r))] [] h Q := by
  intro m
  induction m with
  | zero =>
    intro i acc hm kk
    have n60 := R.n60
    refine x_run 2 (pc' := 8) (lv' := [(4, .int (nI i)), (2, .long (acc)), (0, .ref (X.1 0)), (1, .int (nI r))]) (st' := [.ref (X.1 0), .int (nI i)]) rfl ?_
    refine x_get (v := .int (nI (pn P))) rfl rfl R.c0 rfl ?_
    refine x_if (c := nI (pn P) ≤ nI i) (t := 47) rfl rfl (fun c1 => ?_) (fun c1 => ?_)
    · replace c1 := (nI_leI (by omega) (by omega)).mp c1
      refine x_lv (a := [(4, .int (nI i)), (2, .long (acc)), (0, .ref (X.1 0)), (1, .int (nI r))]) rfl rfl ⟨rfl, rfl, rfl, rfl, trivial⟩ ?_
      rw [show i = pn P by omega]
      exact kk
    · replace c1 := mt (nI_leI (by omega) (by omega)).mpr c1
      omega
  | succ m ih =>
    intro i acc hm kk
    have n60 := R.n60
    have hi : i < pn P := by omega
    have r8 := R.wP.rk hi
    refine x_run 2 (pc' := 8) (lv' := [(4, .int (nI i)), (2, .long (acc)), (0, .ref (X.1 0)), (1, .int (nI r))]) (st' := [.ref (X.1 0), .int (nI i)]) rfl ?_
    refine x_get (v := .int (nI (pn P))) rfl rfl R.c0 rfl ?_
    refine x_if (c := nI (pn P) ≤ nI i) (t := 47) rfl rfl (fun c1 => ?_) (fun c1 => ?_)
    · replace c1 := (nI_leI (by omega) (by omega)).mp c1
      omega
    · replace c1 := mt (nI_leI (by omega) (by omega)).mpr c1
      refine x_run 1 (pc' := 15) (lv' := [(4, .int (nI i)), (2, .long (acc)), (0, .ref (X.1 0)), (1, .int (nI r))]) (st' := [.ref (X.1 0)]) rfl ?_
      refine x_get (v := .ref (X.1 1)) rfl rfl R.c0 rfl ?_
      refine x_run 1 (pc' := 20) (lv' := [(4, .int (nI i)), (2, .long (acc)), (0, .ref (X.1 0)), (1, .int (nI r))]) (st' := [.int (nI i), .ref (X.1 1)]) rfl ?_
      refine x_aald3 (j := i) rfl R.c1 (mm_idx_nI (by omega) (by omega)) ?_
      rw [if_pos hi]
      refine x_get (v := .int (nI (pN P 0 i))) rfl rfl (R.cC hi) rfl ?_
      refine x_run 1 (pc' := 25) (lv' := [(4, .int (nI i)), (2, .long (acc)), (0, .ref (X.1 0)), (1, .int (nI r))]) (st' := [.int (nI r), .int (nI (pN P 0 i))]) rfl ?_
      refine x_if (c := ¬ nI (pN P 0 i) = nI r) (t := 41) rfl rfl (fun c2 => ?_) (fun c2 => ?_)
      · replace c2 := mt (nI_eq (by omega) (by omega)).mpr c2
        refine x_run 1 (pc' := 44) (lv' := [(4, .int (nI i + 1)), (2, .long (acc)), (0, .ref (X.1 0)), (1, .int (nI r))]) (st' := []) rfl ?_
        rw [nI_1]
        refine x_run 1 (pc' := 5) (lv' := [(4, .int (nI (i + 1))), (2, .long (acc)), (0, .ref (X.1 0)), (1, .int (nI r))]) (st' := []) rfl ?_
        refine x_lv (a := [(4, .int (nI (i + 1))), (2, .long (acc)), (0, .ref (X.1 0)), (1, .int (nI r))]) rfl rfl ⟨rfl, rfl, rfl, rfl, trivial⟩ ?_
        rw [show p_sumU P r (m + 1) i acc = p_sumU P r m (i + 1) acc from by rw [p_sumU]; rw [if_neg (by omega)]] at kk
        exact ih (i + 1) _ (by omega) kk
      · replace c2 := (nI_eq (by omega) (by omega)).mp (Classical.not_not.mp c2)
        refine x_run 2 (pc' := 30) (lv' := [(4, .int (nI i)), (2, .long (acc)), (0, .ref (X.1 0)), (1, .int (nI r))]) (st' := [.ref (X.1 0), .long (acc)]) rfl ?_
        refine x_get (v := .ref (X.1 1)) rfl rfl R.c0 rfl ?_
        refine x_run 1 (pc' := 35) (lv' := [(4, .int (nI i)), (2, .long (acc)), (0, .ref (X.1 0)), (1, .int (nI r))]) (st' := [.int (nI i), .ref (X.1 1), .long (acc)]) rfl ?_
        refine x_aald3 (j := i) rfl R.c1 (mm_idx_nI (by omega) (by omega)) ?_
        rw [if_pos hi]
        refine x_rd (v := .long (p_unpaid P i)) (k' := 45) (as := [.ref (X.1 (100 + i))]) (rest := [.long (acc)]) (x_isV (np := 0) rfl rfl rfl (R.cC hi) rfl) (c_unpaid R hi) ?_
        refine x_run 3 (pc' := 44) (lv' := [(4, .int (nI i + 1)), (2, .long (acc + (p_unpaid P i))), (0, .ref (X.1 0)), (1, .int (nI r))]) (st' := []) rfl ?_
        rw [nI_1]
        refine x_run 1 (pc' := 5) (lv' := [(4, .int (nI (i + 1))), (2, .long (acc + (p_unpaid P i))), (0, .ref (X.1 0)), (1, .int (nI r))]) (st' := []) rfl ?_
        refine x_lv (a := [(4, .int (nI (i + 1))), (2, .long (acc + (p_unpaid P i))), (0, .ref (X.1 0)), (1, .int (nI r))]) rfl rfl ⟨rfl, rfl, rfl, rfl, trivial⟩ ?_
        rw [show p_sumU P r (m + 1) i acc = p_sumU P r m (i + 1) (acc + (p_unpaid P i)) from by rw [p_sumU]; rw [if_pos (by omega)]] at kk
        exact ih (i + 1) _ (by omega) kk
theorem l_pays {r : Nat} (hr : r < 8) {Q : mm_O × mm_H → Prop} : ∀ (m : Nat) (i : Nat) (P : pP) (h : mm_H), Rep u (v + m) X P M z h → i + m = pn P → (∀ h, Rep u v X (p_pays r m i P) M z h → Wx (d + 3) 32 116 [(4, .int (nI (i + m))), (0, .ref (X.1 0)), (1, .int (nI r))] [] h Q) → Wx (d + 3) 32 66 [(4, .int (nI i)), (0, .ref (X.1 0)), (1, .int (nI r))] [] h Q := by
  intro m
  induction m with
  | zero =>
    intro i P h R hm kk
    have n60 := R.n60
    refine x_run 2 (pc' := 69) (lv' := [(4, .int (nI i)), (0, .ref (X.1 0)), (1, .int (nI r))]) (st' := [.ref (X.1 0), .int (nI i)]) rfl ?_
    refine x_get (v := .int (nI (pn P))) rfl rfl R.c0 rfl ?_
    refine x_if (c := nI (pn P) ≤ nI i) (t := 116) rfl rfl (fun c1 => ?_) (fun c1 => ?_)
    · replace c1 := (nI_leI (by omega) (by omega)).mp c1
      refine x_lv (a := [(4, .int (nI i)), (0, .ref (X.1 0)), (1, .int (nI r))]) rfl rfl ⟨rfl, rfl, rfl, trivial⟩ ?_
      exact kk h R
    · replace c1 := mt (nI_leI (by omega) (by omega)).mpr c1
      omega
  | succ m ih =>
    intro i P h R hm kk
    have R : Rep u (v + m + 1) X P M z h := R
    have n60 := R.n60
    have hi : i < pn P := by omega
    have r8 := R.wP.rk hi
    rw [show i + (m + 1) = i + 1 + m by omega] at kk
    refine x_run 2 (pc' := 69) (lv' := [(4, .int (nI i)), (0, .ref (X.1 0)), (1, .int (nI r))]) (st' := [.ref (X.1 0), .int (nI i)]) rfl ?_
    refine x_get (v := .int (nI (pn P))) rfl rfl R.c0 rfl ?_
    refine x_if (c := nI (pn P) ≤ nI i) (t := 116) rfl rfl (fun c1 => ?_) (fun c1 => ?_)
    · replace c1 := (nI_leI (by omega) (by omega)).mp c1
      omega
    · replace c1 := mt (nI_leI (by omega) (by omega)).mpr c1
      refine x_run 1 (pc' := 76) (lv' := [(4, .int (nI i)), (0, .ref (X.1 0)), (1, .int (nI r))]) (st' := [.ref (X.1 0)]) rfl ?_
      refine x_get (v := .ref (X.1 1)) rfl rfl R.c0 rfl ?_
      refine x_run 1 (pc' := 81) (lv' := [(4, .int (nI i)), (0, .ref (X.1 0)), (1, .int (nI r))]) (st' := [.int (nI i), .ref (X.1 1)]) rfl ?_
      refine x_aald3 (j := i) rfl R.c1 (mm_idx_nI (by omega) (by omega)) ?_
      rw [if_pos hi]
      refine x_get (v := .int (nI (pN P 0 i))) rfl rfl (R.cC hi) rfl ?_
      refine x_run 1 (pc' := 86) (lv' := [(4, .int (nI i)), (0, .ref (X.1 0)), (1, .int (nI r))]) (st' := [.int (nI r), .int (nI (pN P 0 i))]) rfl ?_
      refine x_if (c := ¬ nI (pN P 0 i) = nI r) (t := 110) rfl rfl (fun c2 => ?_) (fun c2 => ?_)
      · replace c2 := mt (nI_eq (by omega) (by omega)).mpr c2
        refine x_run 1 (pc' := 113) (lv' := [(4, .int (nI i + 1)), (0, .ref (X.1 0)), (1, .int (nI r))]) (st' := []) rfl ?_
        rw [nI_1]
        refine x_run 1 (pc' := 66) (lv' := [(4, .int (nI (i + 1))), (0, .ref (X.1 0)), (1, .int (nI r))]) (st' := []) rfl ?_
        refine x_lv (a := [(4, .int (nI (i + 1))), (0, .ref (X.1 0)), (1, .int (nI r))]) rfl rfl ⟨rfl, rfl, rfl, trivial⟩ ?_
        rw [show p_pays r (m + 1) i P = p_pays r m (i + 1) P from by rw [p_pays]; rw [if_neg (by omega)]] at kk
        exact ih (i + 1) _ _ (R.less (Nat.le_refl _) (Nat.le_succ _)) (by show _ = pn P; omega) kk
      · replace c2 := (nI_eq (by omega) (by omega)).mp (Classical.not_not.mp c2)
        refine x_run 2 (pc' := 91) (lv' := [(4, .int (nI i)), (0, .ref (X.1 0)), (1, .int (nI r))]) (st' := [.ref (X.1 0), .ref (X.1 0)]) rfl ?_
        refine x_get (v := .ref (X.1 1)) rfl rfl R.c0 rfl ?_
        refine x_run 1 (pc' := 96) (lv' := [(4, .int (nI i)), (0, .ref (X.1 0)), (1, .int (nI r))]) (st' := [.int (nI i), .ref (X.1 1), .ref (X.1 0)]) rfl ?_
        refine x_aald3 (j := i) rfl R.c1 (mm_idx_nI (by omega) (by omega)) ?_
        rw [if_pos hi]
        refine x_run 1 (pc' := 98) (lv' := [(4, .int (nI i)), (0, .ref (X.1 0)), (1, .int (nI r))]) (st' := [.ref (X.1 0), .ref (X.1 (100 + i)), .ref (X.1 0)]) rfl ?_
        refine x_get (v := .ref (X.1 1)) rfl rfl R.c0 rfl ?_
        refine x_run 1 (pc' := 103) (lv' := [(4, .int (nI i)), (0, .ref (X.1 0)), (1, .int (nI r))]) (st' := [.int (nI i), .ref (X.1 1), .ref (X.1 (100 + i)), .ref (X.1 0)]) rfl ?_
        refine x_aald3 (j := i) rfl R.c1 (mm_idx_nI (by omega) (by omega)) ?_
        rw [if_pos hi]
        refine x_rd (v := .long (p_unpaid P i)) (k' := 45) (as := [.ref (X.1 (100 + i))]) (rest := [.ref (X.1 (100 + i)), .ref (X.1 0)]) (x_isV (np := 0) rfl rfl rfl (R.cC hi) rfl) (c_unpaid R hi) ?_
        refine x_wr0 (A := Rep u (v + m) X (p_pay P i (p_unpaid P i)) M z) (k' := 35) (as := [.ref (X.1 0), .ref (X.1 (100 + i)), .long (p_unpaid P i)]) (rest := []) (x_isV (np := 2) rfl rfl rfl R.c0 rfl) (c_pay R hi _) (fun h R => ?_)
        refine x_run 1 (pc' := 113) (lv' := [(4, .int (nI i + 1)), (0, .ref (X.1 0)), (1, .int (nI r))]) (st' := []) rfl ?_
        rw [nI_1]
        refine x_run 1 (pc' := 66) (lv' := [(4, .int (nI (i + 1))), (0, .ref (X.1 0)), (1, .int (nI r))]) (st' := []) rfl ?_
        refine x_lv (a := [(4, .int (nI (i + 1))), (0, .ref (X.1 0)), (1, .int (nI r))]) rfl rfl ⟨rfl, rfl, rfl, trivial⟩ ?_
        rw [show p_pays r (m + 1) i P = p_pays r m (i + 1) (p_pay P i (p_unpaid P i)) from by rw [p_pays]; rw [if_pos (by omega)]] at kk
        exact ih (i + 1) _ _ R (by show _ = pn P; omega) kk
end CLS3
