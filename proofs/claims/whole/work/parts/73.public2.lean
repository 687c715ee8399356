section PUB2
variable {u v d : Nat} {X : xX} {P M : pP} {z : zZ} {h : mm_H} {i j : Nat}
theorem l_resolves {rest : Int64} {Q : mm_O × mm_H → Prop} : ∀ (m : Nat) (i : Nat) (P : pP) (h : mm_H), Rep u (v + 2 * m) X P M z h → i + m = pn P → (∀ h, Rep u v X (p_resolves p_open m i P) M z h → Wx (d + 5) 5 120 [(7, .int (nI (i + m))), (5, .long rest), (0, .ref (X.1 0))] [] h Q) → Wx (d + 5) 5 93 [(7, .int (nI i)), (5, .long (rest)), (0, .ref (X.1 0))] [] h Q := by
  intro m
  induction m with
  | zero =>
    intro i P h R hm kk
    have n60 := R.n60
    refine x_run 2 (pc' := 96) (lv' := [(7, .int (nI i)), (5, .long (rest)), (0, .ref (X.1 0))]) (st' := [.ref (X.1 0), .int (nI i)]) rfl ?_
    refine x_get (v := .int (nI (pn P))) rfl rfl R.c0 rfl ?_
    refine x_if (c := nI (pn P) ≤ nI i) (t := 120) rfl rfl (fun c1 => ?_) (fun c1 => ?_)
    · replace c1 := (nI_leI (by omega) (by omega)).mp c1
      refine x_lv (a := [(7, .int (nI i)), (5, .long (rest)), (0, .ref (X.1 0))]) rfl rfl ⟨rfl, rfl, rfl, trivial⟩ ?_
      exact kk h R
    · replace c1 := mt (nI_leI (by omega) (by omega)).mpr c1
      omega
  | succ m ih =>
    intro i P h R hm kk
    have R : Rep u (v + 2 * m + 1 + 1) X P M z h := R.less (Nat.le_refl _) (by omega)
    have n60 := R.n60
    have hi : i < pn P := by omega
    rw [show i + (m + 1) = i + 1 + m by omega] at kk
    refine x_run 2 (pc' := 96) (lv' := [(7, .int (nI i)), (5, .long (rest)), (0, .ref (X.1 0))]) (st' := [.ref (X.1 0), .int (nI i)]) rfl ?_
    refine x_get (v := .int (nI (pn P))) rfl rfl R.c0 rfl ?_
    refine x_if (c := nI (pn P) ≤ nI i) (t := 120) rfl rfl (fun c1 => ?_) (fun c1 => ?_)
    · replace c1 := (nI_leI (by omega) (by omega)).mp c1
      omega
    · replace c1 := mt (nI_leI (by omega) (by omega)).mpr c1
      refine x_run 2 (pc' := 104) (lv' := [(7, .int (nI i)), (5, .long (rest)), (0, .ref (X.1 0))]) (st' := [.ref (X.1 0), .ref (X.1 0)]) rfl ?_
      refine x_get (v := .ref (X.1 1)) rfl rfl R.c0 rfl ?_
      refine x_run 1 (pc' := 109) (lv' := [(7, .int (nI i)), (5, .long (rest)), (0, .ref (X.1 0))]) (st' := [.int (nI i), .ref (X.1 1), .ref (X.1 0)]) rfl ?_
      refine x_aald3 (j := i) rfl R.c1 (mm_idx_nI (by omega) (by omega)) ?_
      rw [if_pos hi]
      refine x_wr (v := .long (p_resV (p_open P i) P i)) (A := Rep u (v + 2 * m) X (p_resolve (p_open P i) P i) M z) (k' := 29) (as := [.ref (X.1 0), .ref (X.1 (100 + i))]) (rest := []) (x_isV (np := 1) rfl rfl rfl R.c0 rfl) (c_resolve R hi) (fun h R => ?_)
      refine x_run 2 (pc' := 117) (lv' := [(7, .int (nI i + 1)), (5, .long (rest)), (0, .ref (X.1 0))]) (st' := []) rfl ?_
      rw [nI_1]
      refine x_run 1 (pc' := 93) (lv' := [(7, .int (nI (i + 1))), (5, .long (rest)), (0, .ref (X.1 0))]) (st' := []) rfl ?_
      refine x_lv (a := [(7, .int (nI (i + 1))), (5, .long (rest)), (0, .ref (X.1 0))]) rfl rfl ⟨rfl, rfl, rfl, trivial⟩ ?_
      rw [show p_resolves p_open (m + 1) i P = p_resolves p_open m (i + 1) (p_resolve (p_open P i) P i) from rfl] at kk
      exact ih (i + 1) _ _ R (by rw [(sh_resolve (p_open P i) P i).1]; omega) kk
theorem c_real (R : Rep (u + 1) (v + 120 + 4 + 1) X P M z h) (hj : j < pa P) (n : Int64) : Wx (d + 7) 5 0 (lv_args 0 [.ref (X.1 0), .int (nI j), .long (n)]) [] h (pQ (RP u v X M z) (o_real p_open P j n)) := by
  show Wx _ _ 0 [(0, .ref (X.1 0)), (1, .int (nI j)), (2, .long (n))] [] h _
  refine x_run 2 (pc' := 2) (lv' := [(0, .ref (X.1 0)), (1, .int (nI j)), (2, .long (n))]) (st' := [.int (nI j), .ref (X.1 0)]) rfl ?_
  refine x_rd (v := .ref (X.1 (200 + j))) (k' := 22) (as := [.ref (X.1 0), .int (nI j)]) (rest := []) (x_isV (np := 1) rfl rfl rfl R.c0 rfl) (c_assetAt R hj) ?_
  refine x_run 3 (pc' := 9) (lv' := [(4, .ref (X.1 (200 + j))), (0, .ref (X.1 0)), (1, .int (nI j)), (2, .long (n))]) (st' := [.long (0), .long (n)]) rfl ?_
  rcases g_two (g_cents n 0) with g1 | g1
  · rw [show o_real p_open P j n = (5, none, P) from by simp only [o_real, g1, not_true_eq_false, not_false_eq_true, if_true, if_false, ite_true, ite_false, reduceIte, reduceCtorEq, Classical.not_not]]
    exact x_up (k' := 20) (as := [.long (n), .long (0)]) (rest := []) (x_isS (np := 2) rfl rfl rfl rfl rfl) rfl (c_centsX R g1) (fun r e => pQ_x (by decide) (e.imp fun a q => ⟨q.1, q.2.less (Nat.le_refl _) (by omega)⟩))
  refine x_rd0 (k' := 20) (as := [.long (n), .long (0)]) (rest := []) (x_isS (np := 2) rfl rfl rfl rfl rfl) (c_cents R g1) ?_
  refine x_run 1 (pc' := 13) (lv' := [(4, .ref (X.1 (200 + j))), (0, .ref (X.1 0)), (1, .int (nI j)), (2, .long (n))]) (st' := [.ref (X.1 0)]) rfl ?_
  by_cases g2 : ¬ pI P 4 0 = 0
  · rw [show o_real p_open P j n = (6, none, P) from by simp only [o_real, g1, g2, not_true_eq_false, not_false_eq_true, if_true, if_false, ite_true, ite_false, reduceIte, reduceCtorEq, Classical.not_not]]
    exact x_up (k' := 18) (as := [.ref (X.1 0)]) (rest := []) (x_isV (np := 0) rfl rfl rfl R.c0 rfl) rfl (c_liveX R g2) (fun r e => pQ_x (by decide) (e.imp fun a q => ⟨q.1, q.2.less (Nat.le_refl _) (by omega)⟩))
  refine x_rd0 (k' := 18) (as := [.ref (X.1 0)]) (rest := []) (x_isV (np := 0) rfl rfl rfl R.c0 rfl) (c_live R (Classical.not_not.mp g2)) ?_
  refine x_run 1 (pc' := 18) (lv' := [(4, .ref (X.1 (200 + j))), (0, .ref (X.1 0)), (1, .int (nI j)), (2, .long (n))]) (st' := [.ref (X.1 (200 + j))]) rfl ?_
  refine x_get (v := .int (pI P 1 j)) rfl rfl (R.cA hj) rfl ?_
  refine x_if (c := ¬ pI P 1 j = 0) (t := 32) rfl rfl (fun c3 => ?_) (fun c3 => ?_)
  · rw [show o_real p_open P j n = (6, none, P) from by simp only [o_real, g1, g2, c3, not_true_eq_false, not_false_eq_true, if_true, if_false, ite_true, ite_false, reduceIte, reduceCtorEq, Classical.not_not]]
    exact pQ_th (x_throw (R.less (v' := v) (Nat.le_refl _) (by omega)) rfl rfl rfl rfl rfl rfl rfl rfl (by omega)) (by decide)
  · refine x_run 1 (pc' := 26) (lv' := [(4, .ref (X.1 (200 + j))), (0, .ref (X.1 0)), (1, .int (nI j)), (2, .long (n))]) (st' := [.ref (X.1 (200 + j))]) rfl ?_
    refine x_rd (v := .int (bI (p_cont P j (pN P 1 j) 0))) (k' := 49) (as := [.ref (X.1 (200 + j))]) (rest := []) (x_isV (np := 0) rfl rfl rfl (R.cA hj) rfl) (c_cont R hj) ?_
    refine x_if (c := bI (p_cont P j (pN P 1 j) 0) = 0) (t := 42) rfl rfl (fun c4 => ?_) (fun c4 => ?_)
    · replace c4 := bI_0.mp c4
      refine x_run 2 (pc' := 45) (lv' := [(4, .ref (X.1 (200 + j))), (0, .ref (X.1 0)), (1, .int (nI j)), (2, .long (n))]) (st' := [.int (1), .ref (X.1 (200 + j))]) rfl ?_
      refine x_put rfl rfl (R.cA hj) rfl ?_
      refine gen_h (A := Rep (u + 1) (v + 120 + 4 + 1) X (sI P 1 j (1)) M z) (R.uReal hj _) (fun h R => ?_)
      refine x_run 2 (pc' := 50) (lv' := [(4, .ref (X.1 (200 + j))), (0, .ref (X.1 0)), (1, .int (nI j)), (2, .long (n))]) (st' := [.ref (X.1 0), .ref (X.1 0)]) rfl ?_
      refine x_get (v := .long (pL P 7 1)) rfl rfl R.c0 rfl ?_
      refine x_run 2 (pc' := 55) (lv' := [(4, .ref (X.1 (200 + j))), (0, .ref (X.1 0)), (1, .int (nI j)), (2, .long (n))]) (st' := [.long ((pL P 7 1) + n), .ref (X.1 0)]) rfl ?_
      refine x_put rfl rfl R.c0 rfl ?_
      refine gen_h (A := Rep (u + 1) (v + 120 + 4 + 1) X (sL (sI P 1 j (1)) 7 1 ((pL P 7 1) + n)) M z) (R.uInc _) (fun h R => ?_)
      refine x_run 1 (pc' := 59) (lv' := [(4, .ref (X.1 (200 + j))), (0, .ref (X.1 0)), (1, .int (nI j)), (2, .long (n))]) (st' := [.ref (X.1 0)]) rfl ?_
      refine x_get (v := .ref (X.1 4)) rfl rfl R.c0 rfl ?_
      refine x_run 3 (pc' := 65) (lv' := [(4, .ref (X.1 (200 + j))), (0, .ref (X.1 0)), (1, .int (nI j)), (2, .long (n))]) (st' := [.long (n), .int (nI j), .int (1), .ref (X.1 4)]) rfl ?_
      refine x_wr0 (A := Rep (u + 1) (v + 120 + 4) X (p_note (sL (sI P 1 j (1)) 7 1 ((pL P 7 1) + n)) 1 (nI j) n) M z) (k' := 51) (as := [.ref (X.1 4), .int (1), .int (nI j), .long (n)]) (rest := []) (x_isV (np := 3) rfl rfl rfl R.c4 rfl) (c_note R _ _ _) (fun h R => ?_)
      refine x_run 4 (pc' := 73) (lv' := [(4, .ref (X.1 (200 + j))), (0, .ref (X.1 0)), (1, .int (nI j)), (2, .long (n))]) (st' := [.long (n), .ref (X.1 (200 + j)), .ref (X.1 0), .long (n)]) rfl ?_
      refine x_wr (v := .long ((p_give j n (pN P 1 j) 0 (p_note (sL (sI P 1 j (1)) 7 1 ((pL P 7 1) + n)) 1 (nI j) n) 0).2)) (A := Rep (u + 1) (v + 120) X ((p_give j n (pN P 1 j) 0 (p_note (sL (sI P 1 j (1)) 7 1 ((pL P 7 1) + n)) 1 (nI j) n) 0).1) M z) (k' := 28) (as := [.ref (X.1 0), .ref (X.1 (200 + j)), .long (n)]) (rest := [.long (n)]) (x_isV (np := 2) rfl rfl rfl R.c0 rfl) (c_give R hj _) (fun h R => ?_)
      refine x_run 4 (pc' := 81) (lv' := [(5, .long (n - ((p_give j n (pN P 1 j) 0 (p_note (sL (sI P 1 j (1)) 7 1 ((pL P 7 1) + n)) 1 (nI j) n) 0).2))), (4, .ref (X.1 (200 + j))), (0, .ref (X.1 0)), (1, .int (nI j)), (2, .long (n))]) (st' := [.ref (X.1 0), .ref (X.1 0)]) rfl ?_
      refine x_get (v := .long (pL ((p_give j n (pN P 1 j) 0 (p_note (sL (sI P 1 j (1)) 7 1 ((pL P 7 1) + n)) 1 (nI j) n) 0).1) 7 0)) rfl rfl R.c0 rfl ?_
      refine x_run 2 (pc' := 87) (lv' := [(5, .long (n - ((p_give j n (pN P 1 j) 0 (p_note (sL (sI P 1 j (1)) 7 1 ((pL P 7 1) + n)) 1 (nI j) n) 0).2))), (4, .ref (X.1 (200 + j))), (0, .ref (X.1 0)), (1, .int (nI j)), (2, .long (n))]) (st' := [.long ((pL ((p_give j n (pN P 1 j) 0 (p_note (sL (sI P 1 j (1)) 7 1 ((pL P 7 1) + n)) 1 (nI j) n) 0).1) 7 0) + (n - ((p_give j n (pN P 1 j) 0 (p_note (sL (sI P 1 j (1)) 7 1 ((pL P 7 1) + n)) 1 (nI j) n) 0).2))), .ref (X.1 0)]) rfl ?_
      refine x_put rfl rfl R.c0 rfl ?_
      refine gen_h (A := Rep (u + 1) (v + 120) X (sL ((p_give j n (pN P 1 j) 0 (p_note (sL (sI P 1 j (1)) 7 1 ((pL P 7 1) + n)) 1 (nI j) n) 0).1) 7 0 ((pL ((p_give j n (pN P 1 j) 0 (p_note (sL (sI P 1 j (1)) 7 1 ((pL P 7 1) + n)) 1 (nI j) n) 0).1) 7 0) + (n - ((p_give j n (pN P 1 j) 0 (p_note (sL (sI P 1 j (1)) 7 1 ((pL P 7 1) + n)) 1 (nI j) n) 0).2)))) M z) (R.uCash _) (fun h R => ?_)
      refine x_run 2 (pc' := 93) (lv' := [(7, .int (0)), (5, .long (n - ((p_give j n (pN P 1 j) 0 (p_note (sL (sI P 1 j (1)) 7 1 ((pL P 7 1) + n)) 1 (nI j) n) 0).2))), (4, .ref (X.1 (200 + j))), (0, .ref (X.1 0)), (1, .int (nI j)), (2, .long (n))]) (st' := []) rfl ?_
      have R : Rep (u + 1) (v + 120) X (p_real3 P j n) M z h := R
      have n60 := R.n60
      refine x_lv (a := [(7, .int (0)), (5, .long (n - ((p_give j n (pN P 1 j) 0 (p_note (sL (sI P 1 j (1)) 7 1 ((pL P 7 1) + n)) 1 (nI j) n) 0).2))), (0, .ref (X.1 0))]) rfl rfl ⟨rfl, rfl, rfl, trivial⟩ ?_
      refine l_resolves (v := v) (pn (p_real3 P j n)) 0 (p_real3 P j n) h (R.less (Nat.le_refl _) (by omega)) (by omega) (fun h R => ?_)
      refine x_run 1 (pc' := 122) (lv' := [(7, .int (nI (0 + pn (p_real3 P j n)))), (5, .long (n - (p_real2 P j n).2)), (0, .ref (X.1 0))]) (st' := [.long (n - (p_real2 P j n).2)]) rfl ?_
      rw [show o_real p_open P j n = (0, some (.long (n - (p_real2 P j n).2)), p_resolves p_open (pn (p_real3 P j n)) 0 (p_real3 P j n)) from by simp only [o_real, g1, g2, c3, c4, not_true_eq_false, not_false_eq_true, if_true, if_false, ite_true, ite_false, reduceIte, reduceCtorEq, Classical.not_not]]
      exact x_ret (v := some (.long (n - (p_real2 P j n).2))) rfl rfl rfl (pQ_0 (R.less (by omega) (by omega)))
    · replace c4 := bI_n0 c4
      rw [show o_real p_open P j n = (6, none, P) from by simp only [o_real, g1, g2, c3, c4, not_true_eq_false, not_false_eq_true, if_true, if_false, ite_true, ite_false, reduceIte, reduceCtorEq, Classical.not_not]]
      exact pQ_th (x_throw (R.less (v' := v) (Nat.le_refl _) (by omega)) rfl rfl rfl rfl rfl rfl rfl rfl (by omega)) (by decide)
theorem pw_half (m : Nat) : 2 ^ (m + 1) / 2 = 2 ^ m := by rw [Nat.pow_succ]; omega
theorem l_great (R : Rep u v X P M z h) {r : Nat} (hr : r < 8) : ∀ (m t b : Nat), t = 2 ^ m / 2 → m ≤ 14 → b ≤ 10000 → Wx (d + 5) 10 32 [(3, .int (nI t)), (2, .int (nI b)), (0, .ref (X.1 0)), (1, .int (nI r))] [] h (fun r0 => r0 = (.inl (some (.int (nI (p_great P r m b)))), h)) := by
  intro m
  induction m with
  | zero =>
    intro t b ht hm hb
    replace ht : t = 0 := ht
    refine x_run 1 (pc' := 33) (lv' := [(3, .int (nI t)), (2, .int (nI b)), (0, .ref (X.1 0)), (1, .int (nI r))]) (st' := [.int (nI t)]) rfl ?_
    refine x_if (c := nI t ≤ nI 0) (t := 72) rfl rfl (fun c1 => ?_) (fun c1 => ?_)
    · replace c1 := (nI_leI (by omega) (by omega)).mp c1
      refine x_run 1 (pc' := 73) (lv' := [(3, .int (nI t)), (2, .int (nI b)), (0, .ref (X.1 0)), (1, .int (nI r))]) (st' := [.int (nI b)]) rfl ?_
      exact x_ret (v := some (.int (nI b))) rfl rfl rfl rfl
    · replace c1 := mt (nI_leI (by omega) (by omega)).mpr c1
      omega
  | succ m ih =>
    intro t b ht hm hb
    have hs : t = 2 ^ m := ht.trans (pw_half m)
    have q1 : 2 ^ m ≤ 2 ^ 13 := Nat.pow_le_pow_right (by omega) (by omega)
    have q2 : 0 < 2 ^ m := Nat.two_pow_pos m
    refine x_run 1 (pc' := 33) (lv' := [(3, .int (nI t)), (2, .int (nI b)), (0, .ref (X.1 0)), (1, .int (nI r))]) (st' := [.int (nI t)]) rfl ?_
    refine x_if (c := nI t ≤ nI 0) (t := 72) rfl rfl (fun c1 => ?_) (fun c1 => ?_)
    · replace c1 := (nI_leI (by omega) (by omega)).mp c1
      omega
    · replace c1 := mt (nI_leI (by omega) (by omega)).mpr c1
      refine x_run 3 (pc' := 39) (lv' := [(3, .int (nI t)), (2, .int (nI b)), (0, .ref (X.1 0)), (1, .int (nI r))]) (st' := [.int ((nI b) + (nI t))]) rfl ?_
      rw [nI_add]
      refine x_run 1 (pc' := 42) (lv' := [(3, .int (nI t)), (2, .int (nI b)), (0, .ref (X.1 0)), (1, .int (nI r))]) (st' := [.int (10000), .int (nI (b + t))]) rfl ?_
      refine x_if (c := nI 10000 < nI (b + t)) (t := 65) rfl rfl (fun c2 => ?_) (fun c2 => ?_)
      · replace c2 := (nI_ltI (by omega) (by omega)).mp c2
        refine x_run 3 (pc' := 68) (lv' := [(3, .int (nI t)), (2, .int (nI b)), (0, .ref (X.1 0)), (1, .int (nI r))]) (st' := [.int ((nI t) / nI 2)]) rfl ?_
        rw [pk_div (by omega) (by omega) (by omega)]
        refine x_run 2 (pc' := 32) (lv' := [(3, .int (nI (t / 2))), (2, .int (nI b)), (0, .ref (X.1 0)), (1, .int (nI r))]) (st' := []) rfl ?_
        refine x_lv (a := [(3, .int (nI (t / 2))), (2, .int (nI b)), (0, .ref (X.1 0)), (1, .int (nI r))]) rfl rfl ⟨rfl, rfl, rfl, rfl, trivial⟩ ?_
        rw [show p_great P r (m + 1) b = p_great P r m b from by rw [p_great]; rw [if_neg (fun e => by first | omega | (rw [hs] at c2; exact absurd c2 (Int64.not_lt.mpr e.2)))]]
        exact ih _ _ (by omega) (by omega) (by omega)
      · replace c2 := mt (nI_ltI (by omega) (by omega)).mpr c2
        refine x_run 5 (pc' := 50) (lv' := [(3, .int (nI t)), (2, .int (nI b)), (0, .ref (X.1 0)), (1, .int (nI r))]) (st' := [.int ((nI b) + (nI t)), .int (nI r), .ref (X.1 0)]) rfl ?_
        rw [nI_add]
        refine x_rd (v := .long (p_need P r (nI (b + t)) (pn P) 0 0)) (k' := 25) (as := [.ref (X.1 0), .int (nI r), .int (nI (b + t))]) (rest := []) (x_isV (np := 2) rfl rfl rfl R.c0 rfl) (c_need R hr _) ?_
        refine x_run 1 (pc' := 54) (lv' := [(3, .int (nI t)), (2, .int (nI b)), (0, .ref (X.1 0)), (1, .int (nI r))]) (st' := [.ref (X.1 0), .long (p_need P r (nI (b + t)) (pn P) 0 0)]) rfl ?_
        refine x_get (v := .long (pL P 7 0)) rfl rfl R.c0 rfl ?_
        refine x_lgt (t := 65) rfl rfl rfl (fun c3 => ?_) (fun c3 => ?_)
        · refine x_run 3 (pc' := 68) (lv' := [(3, .int (nI t)), (2, .int (nI b)), (0, .ref (X.1 0)), (1, .int (nI r))]) (st' := [.int ((nI t) / nI 2)]) rfl ?_
          rw [pk_div (by omega) (by omega) (by omega)]
          refine x_run 2 (pc' := 32) (lv' := [(3, .int (nI (t / 2))), (2, .int (nI b)), (0, .ref (X.1 0)), (1, .int (nI r))]) (st' := []) rfl ?_
          refine x_lv (a := [(3, .int (nI (t / 2))), (2, .int (nI b)), (0, .ref (X.1 0)), (1, .int (nI r))]) rfl rfl ⟨rfl, rfl, rfl, rfl, trivial⟩ ?_
          rw [show p_great P r (m + 1) b = p_great P r m b from by rw [p_great]; rw [if_neg (fun e => by first | omega | (rw [hs] at c3; exact absurd c3 (Int64.not_lt.mpr e.2)))]]
          exact ih _ _ (by omega) (by omega) (by omega)
        · refine x_run 3 (pc' := 64) (lv' := [(3, .int (nI t)), (2, .int (nI b)), (0, .ref (X.1 0)), (1, .int (nI r))]) (st' := [.int ((nI b) + (nI t))]) rfl ?_
          rw [nI_add]
          refine x_run 4 (pc' := 68) (lv' := [(2, .int (nI (b + t))), (3, .int (nI t)), (0, .ref (X.1 0)), (1, .int (nI r))]) (st' := [.int ((nI t) / nI 2)]) rfl ?_
          rw [pk_div (by omega) (by omega) (by omega)]
          refine x_run 2 (pc' := 32) (lv' := [(3, .int (nI (t / 2))), (2, .int (nI (b + t))), (0, .ref (X.1 0)), (1, .int (nI r))]) (st' := []) rfl ?_
          refine x_lv (a := [(3, .int (nI (t / 2))), (2, .int (nI (b + t))), (0, .ref (X.1 0)), (1, .int (nI r))]) rfl rfl ⟨rfl, rfl, rfl, rfl, trivial⟩ ?_
          rw [show p_great P r (m + 1) b = p_great P r m (b + 2 ^ m) from by rw [p_great]; rw [if_pos ⟨by omega, by rw [← hs]; exact Int64.not_lt.mp (by assumption)⟩]]
          rw [show b + t = b + 2 ^ m by omega]; exact ih _ _ (by omega) (by omega) (by omega)
theorem c_greatest (R : Rep u v X P M z h) {r : Nat} (hr : r < 8) : Wx (d + 5) 10 0 (lv_args 0 [.ref (X.1 0), .int (nI r)]) [] h (fun r0 => r0 = (.inl (some (.int (p_greatest P r))), h)) := by
  have p4 := R.wP.pc r
  show Wx _ _ 0 [(0, .ref (X.1 0)), (1, .int (nI r))] [] h _
  refine x_run 1 (pc' := 1) (lv' := [(0, .ref (X.1 0)), (1, .int (nI r))]) (st' := [.int (nI r)]) rfl ?_
  refine x_rd0 (k' := 19) (as := [.int (nI r)]) (rest := []) (x_isS (np := 1) rfl rfl rfl rfl rfl) (c_rank R hr) ?_
  refine x_run 1 (pc' := 5) (lv' := [(0, .ref (X.1 0)), (1, .int (nI r))]) (st' := [.ref (X.1 0)]) rfl ?_
  refine x_get (v := .int (pI P 4 0)) rfl rfl R.c0 rfl ?_
  refine x_if (c := ¬ pI P 4 0 = 0) (t := 19) rfl rfl (fun c1 => ?_) (fun c1 => ?_)
  · refine x_run 1 (pc' := 20) (lv' := [(0, .ref (X.1 0)), (1, .int (nI r))]) (st' := [.int (-1)]) rfl ?_
    refine x_ret (v := some (.int (-1))) rfl rfl rfl ?_
    simp only [p_greatest, c1, not_true_eq_false, not_false_eq_true, if_true, if_false, ite_true, ite_false, reduceIte, reduceCtorEq, Classical.not_not, Bool.false_eq_true]
  · refine x_run 2 (pc' := 13) (lv' := [(0, .ref (X.1 0)), (1, .int (nI r))]) (st' := [.int (nI r), .ref (X.1 0)]) rfl ?_
    refine x_rd (v := .int (bI (p_blk P r (pn P) 0))) (k' := 24) (as := [.ref (X.1 0), .int (nI r)]) (rest := []) (x_isV (np := 1) rfl rfl rfl R.c0 rfl) (c_blk R hr) ?_
    refine x_if (c := bI (p_blk P r (pn P) 0) = 0) (t := 21) rfl rfl (fun c2 => ?_) (fun c2 => ?_)
    · replace c2 := bI_0.mp c2
      refine x_run 1 (pc' := 22) (lv' := [(0, .ref (X.1 0)), (1, .int (nI r))]) (st' := [.ref (X.1 0)]) rfl ?_
      refine x_get (v := .ref (X.1 3)) rfl rfl R.c0 rfl ?_
      refine x_run 1 (pc' := 26) (lv' := [(0, .ref (X.1 0)), (1, .int (nI r))]) (st' := [.int (nI r), .ref (X.1 3)]) rfl ?_
      refine x_iald (j := r) rfl R.c3 (mm_idx_nI (by omega) (by omega)) ?_
      refine x_run 3 (pc' := 32) (lv' := [(3, .int (8192)), (2, .int (nI (pN P 3 r))), (0, .ref (X.1 0)), (1, .int (nI r))]) (st' := []) rfl ?_
      refine x_lv (a := [(3, .int (8192)), (2, .int (nI (pN P 3 r))), (0, .ref (X.1 0)), (1, .int (nI r))]) rfl rfl ⟨rfl, rfl, rfl, rfl, trivial⟩ ?_
      rw [show p_greatest P r = nI (p_great P r 14 (pN P 3 r)) from by simp only [p_greatest, c1, c2, not_true_eq_false, not_false_eq_true, if_true, if_false, ite_true, ite_false, reduceIte, reduceCtorEq, Classical.not_not, Bool.false_eq_true]]
      exact l_great R hr 14 8192 _ (by decide) (by omega) (by omega)
    · replace c2 := bI_n0 c2
      refine x_run 1 (pc' := 20) (lv' := [(0, .ref (X.1 0)), (1, .int (nI r))]) (st' := [.int (-1)]) rfl ?_
      refine x_ret (v := some (.int (-1))) rfl rfl rfl ?_
      simp only [p_greatest, c1, c2, not_true_eq_false, not_false_eq_true, if_true, if_false, ite_true, ite_false, reduceIte, reduceCtorEq, Classical.not_not, Bool.false_eq_true]
end PUB2
