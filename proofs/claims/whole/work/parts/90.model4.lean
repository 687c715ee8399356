section MOD4
variable {u v d : Nat} {X : xX} {P M : pP} {z : zZ} {h : mm_H} {i j : Nat}
theorem k_inE {x lo hi : Int64} {b : Bool} (e : g_in x lo hi = b) : Wx d 55 0 (lv_args 0 [.long x, .long lo, .long hi]) [] h (fun r0 => r0 = (.inl (some (.int (bI b))), h)) := by
  rw [← e]
  exact k_in x lo hi
theorem g_in_f {x lo hi : Int64} (h : x.toInt < lo.toInt ∨ hi.toInt < x.toInt) : g_in x lo hi = false := by
  rw [Bool.eq_false_iff, Ne, g_in_iff]
  omega
theorem g_in_t {x lo hi : Int64} (h : lo.toInt ≤ x.toInt ∧ x.toInt ≤ hi.toInt) : g_in x lo hi = true := g_in_iff.mpr h
theorem pct_t {p : Nat} (h1 : 1 ≤ p) (h2 : p ≤ 10000) : g_in (nI p).toInt64 1 10000 = true := by
  apply g_in_t
  rw [Int32.toInt_toInt64, nI_toInt (by omega), show (1 : Int64).toInt = 1 from by decide, show (10000 : Int64).toInt = 10000 from by decide]
  omega
theorem pct_f {p : Int32} (hp : p < 1 ∨ 10000 < p) : g_in p.toInt64 1 10000 = false := by
  apply g_in_f
  rw [Int32.toInt_toInt64, show (1 : Int64).toInt = 1 from by decide, show (10000 : Int64).toInt = 10000 from by decide]
  rw [Int32.lt_iff_toInt_lt, Int32.lt_iff_toInt_lt, show (1 : Int32).toInt = 1 from by decide, show (10000 : Int32).toInt = 10000 from by decide] at hp
  omega
theorem what_f {w : Int32} {n : Int64} (hw : w.toInt < 0 ∨ n.toInt < w.toInt) : g_in w.toInt64 0 n = false := by
  apply g_in_f
  rw [Int32.toInt_toInt64, show (0 : Int64).toInt = 0 from by decide]
  exact hw
theorem keeps_t {e : Nat} (hk : p_keeps P (nI e) = true) (he : e < 3000) (hj : pj P < 2 ^ 31) : e < pj P := by
  unfold p_keeps at hk
  simp only [Bool.and_eq_true, Bool.not_eq_true', decide_eq_false_iff_not] at hk
  have := mt (nI_leI hj (show e < 2 ^ 31 by omega)).mpr hk.2.1
  omega
theorem keeps_f1 {q : Int32} (hk : p_keeps P q = false) (hj : pj P < 3000) : q < 0 ∨ nI (pj P) ≤ q := by
  unfold p_keeps at hk
  simp only [Bool.and_eq_false_iff, Bool.not_eq_false', decide_eq_true_eq] at hk
  rcases hk with a | a | a
  · exact Or.inl a
  · exact Or.inr a
  · exact Or.inr (Int32.le_trans (nI_le (show pj P ≤ 3000 by omega) (by omega)) a)
theorem keeps_f2 {q : Int32} (hk : p_keeps P q = false) (hj : ¬ pj P < 3000) (hb : pj P < 2 ^ 31) : q < 0 ∨ nI 3000 ≤ q := by
  unfold p_keeps at hk
  simp only [Bool.and_eq_false_iff, Bool.not_eq_false', decide_eq_true_eq] at hk
  rcases hk with a | a | a
  · exact Or.inl a
  · exact Or.inr (Int32.le_trans (nI_le (show 3000 ≤ pj P by omega) hb) a)
  · exact Or.inr a
theorem part_m {X l : Int64} : (if X < l then X else l) = (if l < X then l else X) := by
  by_cases a : X < l
  · rw [if_pos a, if_neg (fun b => Int64.lt_irrefl (Int64.lt_trans a b))]
  · rw [if_neg a]
    by_cases b : l < X
    · rw [if_pos b]
    · rw [if_neg b]
      exact Int64.le_antisymm (Int64.not_lt.mp a) (Int64.not_lt.mp b)
theorem sub_sub64 (a b c : Int64) : a - b - c = a - (b + c) := by
  apply Int64.toBitVec_inj.mp
  simp only [Int64.toBitVec_sub, Int64.toBitVec_add]
  exact BitVec.sub_sub _ _ _
theorem k_settle2 (R : Rep u (v + 1 + 1) X P M z h) (hi : i < pn M) : Wx (d + 4) 77 104 [(0, .ref (X.1 8)), (1, .int (nI i))] [] h (fun r0 => r0.1 = .inl (some (.long (cond (p_openM M i) 0 (p_resV (p_openM M i) M i)))) ∧ Rep u v X P (cond (p_openM M i) (p_release M i (p_above M i)) (p_resolve (p_openM M i) M i)) z r0.2) := by
  have m60 := R.m60
  refine x_run 2 (pc' := 106) (lv' := [(0, .ref (X.1 8)), (1, .int (nI i))]) (st' := [.int (nI i), .ref (X.1 8)]) rfl ?_
  refine x_rd (v := .int (bI (p_openM M i))) (k' := 62) (as := [.ref (X.1 8), .int (nI i)]) (rest := []) (x_isV (np := 1) rfl rfl rfl R.c8 rfl) (k_open R hi) ?_
  refine x_if (c := bI (p_openM M i) = 0) (t := 146) rfl rfl (fun c1 => ?_) (fun c1 => ?_)
  · replace c1 := bI_0.mp c1
    refine x_run 2 (pc' := 148) (lv' := [(0, .ref (X.1 8)), (1, .int (nI i))]) (st' := [.int (nI i), .ref (X.1 8)]) rfl ?_
    refine x_wr (v := .long (p_resV (p_openM M i) M i)) (A := Rep u v X P (p_resolve (p_openM M i) M i) z) (k' := 69) (as := [.ref (X.1 8), .int (nI i)]) (rest := []) (x_isV (np := 1) rfl rfl rfl R.c8 rfl) (k_settled R hi) (fun h R => ?_)
    have e : p_openM M i = false := c1
    rw [e] at R
    rw [e]
    exact x_ret (v := some (.long (p_resV false M i))) rfl rfl rfl ⟨rfl, R⟩
  · replace c1 := bI_n0 c1
    refine x_run 1 (pc' := 113) (lv' := [(0, .ref (X.1 8)), (1, .int (nI i))]) (st' := [.ref (X.1 8)]) rfl ?_
    refine x_get (v := .ref (X.1 14)) rfl rfl R.c8 rfl ?_
    refine x_run 1 (pc' := 117) (lv' := [(0, .ref (X.1 8)), (1, .int (nI i))]) (st' := [.int (nI i), .ref (X.1 14)]) rfl ?_
    refine x_lald (j := i) rfl R.c14 (mm_idx_nI (by omega) (by omega)) ?_
    refine x_run 2 (pc' := 120) (lv' := [(0, .ref (X.1 8)), (1, .int (nI i))]) (st' := [.int (nI i), .ref (X.1 8), .long (pL M 4 i)]) rfl ?_
    refine x_rd (v := .long (p_dueOf M i)) (k' := 65) (as := [.ref (X.1 8), .int (nI i)]) (rest := [.long (pL M 4 i)]) (x_isV (np := 1) rfl rfl rfl R.c8 rfl) (k_dueOf R hi) ?_
    refine x_run 6 (pc' := 131) (lv' := [(4, .long ((pL M 4 i) - (p_dueOf M i))), (0, .ref (X.1 8)), (1, .int (nI i))]) (st' := [.long (0), .long ((pL M 4 i) - (p_dueOf M i)), .int (nI i), .ref (X.1 8)]) rfl ?_
    refine x_lle (t := 140) rfl rfl rfl (fun c2 => ?_) (fun c2 => ?_)
    · refine x_run 1 (pc' := 141) (lv' := [(4, .long ((pL M 4 i) - (p_dueOf M i))), (0, .ref (X.1 8)), (1, .int (nI i))]) (st' := [.long (0), .int (nI i), .ref (X.1 8)]) rfl ?_
      refine x_wr0 (A := Rep u (v + 1) X P (p_release M i 0) z) (k' := 68) (as := [.ref (X.1 8), .int (nI i), .long (0)]) (rest := []) (x_isV (np := 2) rfl rfl rfl R.c8 rfl) (k_release R hi _) (fun h R => ?_)
      refine x_run 1 (pc' := 145) (lv' := [(4, .long ((pL M 4 i) - (p_dueOf M i))), (0, .ref (X.1 8)), (1, .int (nI i))]) (st' := [.long (0)]) rfl ?_
      have e : p_openM M i = true := c1
      have e2 : p_above M i = 0 := by
        unfold p_above
        split
        · rfl
        · exact Int64.le_antisymm c2 (Int64.not_lt.mp (by assumption))
      rw [← e2] at R
      rw [e]
      exact x_ret (v := some (.long (0))) rfl rfl rfl ⟨rfl, R.less (Nat.le_refl _) (Nat.le_succ _)⟩
    · refine x_run 2 (pc' := 141) (lv' := [(4, .long ((pL M 4 i) - (p_dueOf M i))), (0, .ref (X.1 8)), (1, .int (nI i))]) (st' := [.long ((pL M 4 i) - (p_dueOf M i)), .int (nI i), .ref (X.1 8)]) rfl ?_
      refine x_wr0 (A := Rep u (v + 1) X P (p_release M i ((pL M 4 i) - (p_dueOf M i))) z) (k' := 68) (as := [.ref (X.1 8), .int (nI i), .long ((pL M 4 i) - (p_dueOf M i))]) (rest := []) (x_isV (np := 2) rfl rfl rfl R.c8 rfl) (k_release R hi _) (fun h R => ?_)
      refine x_run 1 (pc' := 145) (lv' := [(4, .long ((pL M 4 i) - (p_dueOf M i))), (0, .ref (X.1 8)), (1, .int (nI i))]) (st' := [.long (0)]) rfl ?_
      have e : p_openM M i = true := c1
      have e2 : p_above M i = pL M 4 i - p_dueOf M i := if_neg (fun q => c2 (Int64.le_of_lt q))
      rw [← e2] at R
      rw [e]
      exact x_ret (v := some (.long (0))) rfl rfl rfl ⟨rfl, R.less (Nat.le_refl _) (Nat.le_succ _)⟩
def o_set2 (opn : pP → Nat → Bool) (P : pP) (i : Nat) (n : Int64) : oO := if ¬ pI P 4 0 = 0 then (6, none, P) else if ¬ pI P 0 i = 1 then (6, none, P) else (0, some (.long (cond (opn (p_set P i n) i) 0 (p_resV (opn (p_set P i n) i) (p_set P i n) i))), cond (opn (p_set P i n) i) (p_release (p_set P i n) i (p_above (p_set P i n) i)) (p_resolve (opn (p_set P i n) i) (p_set P i n) i))
theorem settle_f (opn : pP → Nat → Bool) {n : Int64} (h : g_in n 0 (pL P 0 i) = false) : o_settle opn P i n = (5, none, P) := by
  unfold o_settle
  split
  · rfl
  · rename_i h1
    rw [if_pos]
    intro h2
    unfold g_in at h
    rw [decide_eq_false h1, decide_eq_true h2] at h
    cases h
theorem settle_t (opn : pP → Nat → Bool) {n : Int64} (h : g_in n 0 (pL P 0 i) = true) : o_settle opn P i n = o_set2 opn P i n := by
  unfold g_in at h
  simp only [Bool.and_eq_true, Bool.not_eq_true', decide_eq_false_iff_not, decide_eq_true_eq] at h
  unfold o_settle o_set2
  rw [if_neg h.1, if_neg (not_not_intro h.2)]
  cases opn (p_set P i n) i <;> simp
theorem k_settle (R : Rep u (v + 1 + 1) X P M z h) (hi : i < pn M) (n : Int64) : Wx (d + 4) 77 0 (lv_args 0 [.ref (X.1 8), .int (nI i), .long (n)]) [] h (mQ u v X P z (mo (cd 7 5 6) (some (.long 0)) (o_settle p_openM M i n))) := by
  have m60 := R.m60
  show Wx _ _ 0 [(0, .ref (X.1 8)), (1, .int (nI i)), (2, .long (n))] [] h _
  refine x_run 3 (pc' := 3) (lv' := [(0, .ref (X.1 8)), (1, .int (nI i)), (2, .long (n))]) (st' := [.int (nI i), .ref (X.1 8), .ref (X.1 8)]) rfl ?_
  refine x_rd (v := .int (bI (true))) (k' := 56) (as := [.ref (X.1 8), .int (nI i)]) (rest := [.ref (X.1 8)]) (x_isV (np := 1) rfl rfl rfl R.c8 rfl) (k_isCt R hi) ?_
  refine x_if (c := ¬ bI (true) = 0) (t := 13) rfl rfl (fun c1 => ?_) (fun c1 => ?_)
  · replace c1 := bI_n0 c1
    refine x_run 3 (pc' := 16) (lv' := [(0, .ref (X.1 8)), (1, .int (nI i)), (2, .long (n))]) (st' := [.ref (X.1 8), .long (0), .long (n), .ref (X.1 8)]) rfl ?_
    refine x_get (v := .ref (X.1 10)) rfl rfl R.c8 rfl ?_
    refine x_run 1 (pc' := 20) (lv' := [(0, .ref (X.1 8)), (1, .int (nI i)), (2, .long (n))]) (st' := [.int (nI i), .ref (X.1 10), .long (0), .long (n), .ref (X.1 8)]) rfl ?_
    refine x_lald (j := i) rfl R.c10 (mm_idx_nI (by omega) (by omega)) ?_
    refine x_rd (v := .int (bI (g_in n 0 (pL M 0 i)))) (k' := 55) (as := [.long (n), .long (0), .long (pL M 0 i)]) (rest := [.ref (X.1 8)]) (x_isS (np := 3) rfl rfl rfl rfl rfl) (k_in _ _ _) ?_
    refine x_if (c := ¬ bI (g_in n 0 (pL M 0 i)) = 0) (t := 31) rfl rfl (fun c2 => ?_) (fun c2 => ?_)
    · replace c2 := bI_n0 c2
      refine x_run 1 (pc' := 32) (lv' := [(0, .ref (X.1 8)), (1, .int (nI i)), (2, .long (n))]) (st' := [.ref (X.1 8), .ref (X.1 8)]) rfl ?_
      refine x_get (v := .int (pI M 4 0)) rfl rfl R.c8 rfl ?_
      refine x_if (c := ¬ pI M 4 0 = 0) (t := 48) rfl rfl (fun c3 => ?_) (fun c3 => ?_)
      · refine x_run 2 (pc' := 53) (lv' := [(0, .ref (X.1 8)), (1, .int (nI i)), (2, .long (n))]) (st' := [.int (3), .ref (X.1 8)]) rfl ?_
        refine x_put rfl rfl R.c8 rfl ?_
        refine gen_h (A := Rep u (v + 1 + 1) X P M ((3, z.2))) (R.mCode _) (fun h R => ?_)
        refine x_run 1 (pc' := 57) (lv' := [(0, .ref (X.1 8)), (1, .int (nI i)), (2, .long (n))]) (st' := [.ref (X.1 8)]) rfl ?_
        refine x_get (v := .int (3)) rfl rfl R.c8 rfl ?_
        refine x_if (c := nI 3 ≤ nI 0) (t := 65) rfl rfl (fun c4 => ?_) (fun c4 => ?_)
        · replace c4 := (nI_leI (by omega) (by omega)).mp c4
          omega
        · replace c4 := mt (nI_leI (by omega) (by omega)).mpr c4
          refine x_run 1 (pc' := 64) (lv' := [(0, .ref (X.1 8)), (1, .int (nI i)), (2, .long (n))]) (st' := [.long (0)]) rfl ?_
          rw [settle_t _ c2, show o_set2 p_openM M i n = (6, none, M) from by simp only [o_set2, c3, not_true_eq_false, not_false_eq_true, if_true, if_false, ite_true, ite_false, reduceIte, reduceCtorEq, Classical.not_not]]
          exact x_ret (v := some (.long (0))) rfl rfl rfl ⟨rfl, _, fun _ => rfl, R.less (by omega) (by omega)⟩
      · replace c3 := Classical.not_not.mp c3
        refine x_run 1 (pc' := 39) (lv' := [(0, .ref (X.1 8)), (1, .int (nI i)), (2, .long (n))]) (st' := [.ref (X.1 8), .ref (X.1 8)]) rfl ?_
        refine x_get (v := .ref (X.1 15)) rfl rfl R.c8 rfl ?_
        refine x_run 1 (pc' := 43) (lv' := [(0, .ref (X.1 8)), (1, .int (nI i)), (2, .long (n))]) (st' := [.int (nI i), .ref (X.1 15), .ref (X.1 8)]) rfl ?_
        refine x_iald (j := i) rfl R.c15 (mm_idx_nI (by omega) (by omega)) ?_
        refine x_run 1 (pc' := 45) (lv' := [(0, .ref (X.1 8)), (1, .int (nI i)), (2, .long (n))]) (st' := [.int (1), .int (pI M 0 i), .ref (X.1 8)]) rfl ?_
        refine x_if (c := pI M 0 i = 1) (t := 52) rfl rfl (fun c5 => ?_) (fun c5 => ?_)
        · refine x_run 1 (pc' := 53) (lv' := [(0, .ref (X.1 8)), (1, .int (nI i)), (2, .long (n))]) (st' := [.int (0), .ref (X.1 8)]) rfl ?_
          refine x_put rfl rfl R.c8 rfl ?_
          refine gen_h (A := Rep u (v + 1 + 1) X P M ((0, z.2))) (R.mCode _) (fun h R => ?_)
          refine x_run 1 (pc' := 57) (lv' := [(0, .ref (X.1 8)), (1, .int (nI i)), (2, .long (n))]) (st' := [.ref (X.1 8)]) rfl ?_
          refine x_get (v := .int (0)) rfl rfl R.c8 rfl ?_
          refine x_if (c := nI 0 ≤ nI 0) (t := 65) rfl rfl (fun c6 => ?_) (fun c6 => ?_)
          · replace c6 := (nI_leI (by omega) (by omega)).mp c6
            refine x_run 1 (pc' := 66) (lv' := [(0, .ref (X.1 8)), (1, .int (nI i)), (2, .long (n))]) (st' := [.ref (X.1 8)]) rfl ?_
            refine x_get (v := .ref (X.1 15)) rfl rfl R.c8 rfl ?_
            refine x_run 3 (pc' := 72) (lv' := [(0, .ref (X.1 8)), (1, .int (nI i)), (2, .long (n))]) (st' := [.long (0), .long (n), .int (nI i), .ref (X.1 15)]) rfl ?_
            refine x_lne (t := 80) rfl rfl rfl (fun c7 => ?_) (fun c7 => ?_)
            · refine x_run 1 (pc' := 81) (lv' := [(0, .ref (X.1 8)), (1, .int (nI i)), (2, .long (n))]) (st' := [.int (0), .int (nI i), .ref (X.1 15)]) rfl ?_
              refine x_iast (j := i) rfl R.c15 (mm_idx_nI (by omega) (by omega)) ?_
              refine gen_h (A := Rep u (v + 1 + 1) X P (sI M 0 i (0)) ((0, z.2))) (R.mState _) (fun h R => ?_)
              refine x_run 1 (pc' := 83) (lv' := [(0, .ref (X.1 8)), (1, .int (nI i)), (2, .long (n))]) (st' := [.ref (X.1 8)]) rfl ?_
              refine x_get (v := .ref (X.1 10)) rfl rfl R.c8 rfl ?_
              refine x_run 3 (pc' := 89) (lv' := [(0, .ref (X.1 8)), (1, .int (nI i)), (2, .long (n))]) (st' := [.long (0), .long (n), .int (nI i), .ref (X.1 10)]) rfl ?_
              refine x_lne (t := 102) rfl rfl rfl (fun c8 => ?_) (fun c8 => ?_)
              · refine x_run 1 (pc' := 103) (lv' := [(0, .ref (X.1 8)), (1, .int (nI i)), (2, .long (n))]) (st' := [.long (n), .int (nI i), .ref (X.1 10)]) rfl ?_
                refine x_last (j := i) rfl R.c10 (mm_idx_nI (by omega) (by omega)) ?_
                refine gen_h (A := Rep u (v + 1 + 1) X P (sL (sI M 0 i (0)) 0 i (n)) ((0, z.2))) (R.mAmount _) (fun h R => ?_)
                have e : p_set M i n = sL (sI M 0 i (0)) 0 i (n) := if_neg c7
                rw [← e] at R
                refine x_lv (a := [(0, .ref (X.1 8)), (1, .int (nI i))]) rfl rfl ⟨rfl, rfl, trivial⟩ ?_
                rw [settle_t _ c2, show o_set2 p_openM M i n = (0, some (.long (cond (p_openM (p_set M i n) i) 0 (p_resV (p_openM (p_set M i n) i) (p_set M i n) i))), cond (p_openM (p_set M i n) i) (p_release (p_set M i n) i (p_above (p_set M i n) i)) (p_resolve (p_openM (p_set M i n) i) (p_set M i n) i)) from by simp only [o_set2, c3, c5, not_true_eq_false, not_false_eq_true, if_true, if_false, ite_true, ite_false, reduceIte, reduceCtorEq, Classical.not_not]]
                exact (k_settle2 R (by unfold p_set; split <;> exact hi)).mono (fun r0 e => ⟨e.1, _, fun _ => rfl, e.2⟩)
              · refine x_run 1 (pc' := 94) (lv' := [(0, .ref (X.1 8)), (1, .int (nI i)), (2, .long (n))]) (st' := [.ref (X.1 8), .int (nI i), .ref (X.1 10)]) rfl ?_
                refine x_get (v := .ref (X.1 10)) rfl rfl R.c8 rfl ?_
                refine x_run 1 (pc' := 98) (lv' := [(0, .ref (X.1 8)), (1, .int (nI i)), (2, .long (n))]) (st' := [.int (nI i), .ref (X.1 10), .int (nI i), .ref (X.1 10)]) rfl ?_
                refine x_lald (j := i) rfl R.c10 (mm_idx_nI (by omega) (by omega)) ?_
                refine x_run 1 (pc' := 103) (lv' := [(0, .ref (X.1 8)), (1, .int (nI i)), (2, .long (n))]) (st' := [.long (pL M 0 i), .int (nI i), .ref (X.1 10)]) rfl ?_
                refine x_last (j := i) rfl R.c10 (mm_idx_nI (by omega) (by omega)) ?_
                refine gen_h (A := Rep u (v + 1 + 1) X P (sL (sI M 0 i (0)) 0 i (pL M 0 i)) ((0, z.2))) (R.mAmount _) (fun h R => ?_)
                exact absurd c8 c7
            · refine x_run 2 (pc' := 81) (lv' := [(0, .ref (X.1 8)), (1, .int (nI i)), (2, .long (n))]) (st' := [.int (2), .int (nI i), .ref (X.1 15)]) rfl ?_
              refine x_iast (j := i) rfl R.c15 (mm_idx_nI (by omega) (by omega)) ?_
              refine gen_h (A := Rep u (v + 1 + 1) X P (sI M 0 i (2)) ((0, z.2))) (R.mState _) (fun h R => ?_)
              refine x_run 1 (pc' := 83) (lv' := [(0, .ref (X.1 8)), (1, .int (nI i)), (2, .long (n))]) (st' := [.ref (X.1 8)]) rfl ?_
              refine x_get (v := .ref (X.1 10)) rfl rfl R.c8 rfl ?_
              refine x_run 3 (pc' := 89) (lv' := [(0, .ref (X.1 8)), (1, .int (nI i)), (2, .long (n))]) (st' := [.long (0), .long (n), .int (nI i), .ref (X.1 10)]) rfl ?_
              refine x_lne (t := 102) rfl rfl rfl (fun c9 => ?_) (fun c9 => ?_)
              · refine x_run 1 (pc' := 103) (lv' := [(0, .ref (X.1 8)), (1, .int (nI i)), (2, .long (n))]) (st' := [.long (n), .int (nI i), .ref (X.1 10)]) rfl ?_
                refine x_last (j := i) rfl R.c10 (mm_idx_nI (by omega) (by omega)) ?_
                refine gen_h (A := Rep u (v + 1 + 1) X P (sL (sI M 0 i (2)) 0 i (n)) ((0, z.2))) (R.mAmount _) (fun h R => ?_)
                exact absurd c7 c9
              · refine x_run 1 (pc' := 94) (lv' := [(0, .ref (X.1 8)), (1, .int (nI i)), (2, .long (n))]) (st' := [.ref (X.1 8), .int (nI i), .ref (X.1 10)]) rfl ?_
                refine x_get (v := .ref (X.1 10)) rfl rfl R.c8 rfl ?_
                refine x_run 1 (pc' := 98) (lv' := [(0, .ref (X.1 8)), (1, .int (nI i)), (2, .long (n))]) (st' := [.int (nI i), .ref (X.1 10), .int (nI i), .ref (X.1 10)]) rfl ?_
                refine x_lald (j := i) rfl R.c10 (mm_idx_nI (by omega) (by omega)) ?_
                refine x_run 1 (pc' := 103) (lv' := [(0, .ref (X.1 8)), (1, .int (nI i)), (2, .long (n))]) (st' := [.long (pL M 0 i), .int (nI i), .ref (X.1 10)]) rfl ?_
                refine x_last (j := i) rfl R.c10 (mm_idx_nI (by omega) (by omega)) ?_
                refine gen_h (A := Rep u (v + 1 + 1) X P (sL (sI M 0 i (2)) 0 i (pL M 0 i)) ((0, z.2))) (R.mAmount _) (fun h R => ?_)
                have e : p_set M i n = sL (sI M 0 i (2)) 0 i (pL M 0 i) := by
                  rw [show p_set M i n = sI M 0 i 2 from if_pos c7]
                  exact (sL_id (sI M 0 i 2) 0 i).symm
                rw [← e] at R
                refine x_lv (a := [(0, .ref (X.1 8)), (1, .int (nI i))]) rfl rfl ⟨rfl, rfl, trivial⟩ ?_
                rw [settle_t _ c2, show o_set2 p_openM M i n = (0, some (.long (cond (p_openM (p_set M i n) i) 0 (p_resV (p_openM (p_set M i n) i) (p_set M i n) i))), cond (p_openM (p_set M i n) i) (p_release (p_set M i n) i (p_above (p_set M i n) i)) (p_resolve (p_openM (p_set M i n) i) (p_set M i n) i)) from by simp only [o_set2, c3, c5, not_true_eq_false, not_false_eq_true, if_true, if_false, ite_true, ite_false, reduceIte, reduceCtorEq, Classical.not_not]]
                exact (k_settle2 R (by unfold p_set; split <;> exact hi)).mono (fun r0 e => ⟨e.1, _, fun _ => rfl, e.2⟩)
          · replace c6 := mt (nI_leI (by omega) (by omega)).mpr c6
            omega
        · refine x_run 2 (pc' := 53) (lv' := [(0, .ref (X.1 8)), (1, .int (nI i)), (2, .long (n))]) (st' := [.int (3), .ref (X.1 8)]) rfl ?_
          refine x_put rfl rfl R.c8 rfl ?_
          refine gen_h (A := Rep u (v + 1 + 1) X P M ((3, z.2))) (R.mCode _) (fun h R => ?_)
          refine x_run 1 (pc' := 57) (lv' := [(0, .ref (X.1 8)), (1, .int (nI i)), (2, .long (n))]) (st' := [.ref (X.1 8)]) rfl ?_
          refine x_get (v := .int (3)) rfl rfl R.c8 rfl ?_
          refine x_if (c := nI 3 ≤ nI 0) (t := 65) rfl rfl (fun c10 => ?_) (fun c10 => ?_)
          · replace c10 := (nI_leI (by omega) (by omega)).mp c10
            omega
          · replace c10 := mt (nI_leI (by omega) (by omega)).mpr c10
            refine x_run 1 (pc' := 64) (lv' := [(0, .ref (X.1 8)), (1, .int (nI i)), (2, .long (n))]) (st' := [.long (0)]) rfl ?_
            rw [settle_t _ c2, show o_set2 p_openM M i n = (6, none, M) from by simp only [o_set2, c3, c5, not_true_eq_false, not_false_eq_true, if_true, if_false, ite_true, ite_false, reduceIte, reduceCtorEq, Classical.not_not]]
            exact x_ret (v := some (.long (0))) rfl rfl rfl ⟨rfl, _, fun _ => rfl, R.less (by omega) (by omega)⟩
    · replace c2 := bI_0.mp (Classical.not_not.mp c2)
      refine x_run 2 (pc' := 53) (lv' := [(0, .ref (X.1 8)), (1, .int (nI i)), (2, .long (n))]) (st' := [.int (2), .ref (X.1 8)]) rfl ?_
      refine x_put rfl rfl R.c8 rfl ?_
      refine gen_h (A := Rep u (v + 1 + 1) X P M ((2, z.2))) (R.mCode _) (fun h R => ?_)
      refine x_run 1 (pc' := 57) (lv' := [(0, .ref (X.1 8)), (1, .int (nI i)), (2, .long (n))]) (st' := [.ref (X.1 8)]) rfl ?_
      refine x_get (v := .int (2)) rfl rfl R.c8 rfl ?_
      refine x_if (c := nI 2 ≤ nI 0) (t := 65) rfl rfl (fun c11 => ?_) (fun c11 => ?_)
      · replace c11 := (nI_leI (by omega) (by omega)).mp c11
        omega
      · replace c11 := mt (nI_leI (by omega) (by omega)).mpr c11
        refine x_run 1 (pc' := 64) (lv' := [(0, .ref (X.1 8)), (1, .int (nI i)), (2, .long (n))]) (st' := [.long (0)]) rfl ?_
        rw [settle_f _ c2]
        exact x_ret (v := some (.long (0))) rfl rfl rfl ⟨rfl, _, fun _ => rfl, R.less (by omega) (by omega)⟩
  · replace c1 := bI_0.mp (Classical.not_not.mp c1)
    cases c1
theorem k_settleX (R : Rep u v X P M z h) {q : Int32} (hq : q < 0 ∨ nI (pn M) ≤ q) (n : Int64) : Wx (d + 4) 77 0 (lv_args 0 [.ref (X.1 8), .int (q), .long (n)]) [] h (mQ u v X P z (1, (some (.long 0)), M)) := by
  show Wx _ _ 0 [(0, .ref (X.1 8)), (1, .int (q)), (2, .long (n))] [] h _
  refine x_run 3 (pc' := 3) (lv' := [(0, .ref (X.1 8)), (1, .int (q)), (2, .long (n))]) (st' := [.int (q), .ref (X.1 8), .ref (X.1 8)]) rfl ?_
  refine x_rd (v := .int (bI (false))) (k' := 56) (as := [.ref (X.1 8), .int (q)]) (rest := [.ref (X.1 8)]) (x_isV (np := 1) rfl rfl rfl R.c8 rfl) (k_isCf R hq) ?_
  refine x_if (c := ¬ bI (false) = 0) (t := 13) rfl rfl (fun c1 => ?_) (fun c1 => ?_)
  · replace c1 := bI_n0 c1
    cases c1
  · replace c1 := bI_0.mp (Classical.not_not.mp c1)
    refine x_run 2 (pc' := 53) (lv' := [(0, .ref (X.1 8)), (1, .int (q)), (2, .long (n))]) (st' := [.int (1), .ref (X.1 8)]) rfl ?_
    refine x_put rfl rfl R.c8 rfl ?_
    refine gen_h (A := Rep u v X P M ((1, z.2))) (R.mCode _) (fun h R => ?_)
    refine x_run 1 (pc' := 57) (lv' := [(0, .ref (X.1 8)), (1, .int (q)), (2, .long (n))]) (st' := [.ref (X.1 8)]) rfl ?_
    refine x_get (v := .int (1)) rfl rfl R.c8 rfl ?_
    refine x_if (c := nI 1 ≤ nI 0) (t := 65) rfl rfl (fun c2 => ?_) (fun c2 => ?_)
    · replace c2 := (nI_leI (by omega) (by omega)).mp c2
      omega
    · replace c2 := mt (nI_leI (by omega) (by omega)).mpr c2
      refine x_run 1 (pc' := 64) (lv' := [(0, .ref (X.1 8)), (1, .int (q)), (2, .long (n))]) (st' := [.long (0)]) rfl ?_
      exact x_ret (v := some (.long (0))) rfl rfl rfl ⟨rfl, _, fun _ => rfl, R⟩
theorem k_div {r p : Nat} (R : Rep u (v + 60 * (r + 1)) X P M z h) (hr : r < 8) (h1 : 1 ≤ p) (h2 : p ≤ 10000) (h0 : 0 ≤ pL M 7 0) : Wx (d + 4) 81 0 (lv_args 0 [.ref (X.1 8), .int (nI r), .int (nI p)]) [] h (mQ u v X P z (mo (cd 5 6 8) (some (.long 0)) (o_div p_openM M r p))) := by
  have p4 := R.wM.pc r
  show Wx _ _ 0 [(0, .ref (X.1 8)), (1, .int (nI r)), (2, .int (nI p))] [] h _
  refine x_run 2 (pc' := 2) (lv' := [(0, .ref (X.1 8)), (1, .int (nI r)), (2, .int (nI p))]) (st' := [.int (nI r), .ref (X.1 8)]) rfl ?_
  refine x_rd (v := .int (bI (true))) (k' := 58) (as := [.int (nI r)]) (rest := [.ref (X.1 8)]) (x_isS (np := 1) rfl rfl rfl rfl rfl) (k_isRt hr) ?_
  refine x_if (c := bI (true) = 0) (t := 20) rfl rfl (fun c1 => ?_) (fun c1 => ?_)
  · replace c1 := bI_0.mp c1
    cases c1
  · replace c1 := bI_n0 c1
    refine x_run 3 (pc' := 11) (lv' := [(0, .ref (X.1 8)), (1, .int (nI r)), (2, .int (nI p))]) (st' := [.long (1), .long ((nI p).toInt64), .ref (X.1 8)]) rfl ?_
    refine x_ldc2 (x := 10000) rfl rfl ?_
    refine x_rd (v := .int (bI (true))) (k' := 55) (as := [.long ((nI p).toInt64), .long (1), .long (10000)]) (rest := [.ref (X.1 8)]) (x_isS (np := 3) rfl rfl rfl rfl rfl) (k_inE (pct_t h1 h2)) ?_
    refine x_if (c := ¬ bI (true) = 0) (t := 24) rfl rfl (fun c2 => ?_) (fun c2 => ?_)
    · replace c2 := bI_n0 c2
      refine x_run 1 (pc' := 25) (lv' := [(0, .ref (X.1 8)), (1, .int (nI r)), (2, .int (nI p))]) (st' := [.ref (X.1 8), .ref (X.1 8)]) rfl ?_
      refine x_get (v := .int (pI M 4 0)) rfl rfl R.c8 rfl ?_
      refine x_if (c := ¬ pI M 4 0 = 0) (t := 49) rfl rfl (fun c3 => ?_) (fun c3 => ?_)
      · refine x_run 2 (pc' := 72) (lv' := [(0, .ref (X.1 8)), (1, .int (nI r)), (2, .int (nI p))]) (st' := [.int (2), .ref (X.1 8)]) rfl ?_
        refine x_put rfl rfl R.c8 rfl ?_
        refine gen_h (A := Rep u (v + 60 * (r + 1)) X P M ((2, z.2))) (R.mCode _) (fun h R => ?_)
        refine x_run 1 (pc' := 76) (lv' := [(0, .ref (X.1 8)), (1, .int (nI r)), (2, .int (nI p))]) (st' := [.ref (X.1 8)]) rfl ?_
        refine x_get (v := .int (2)) rfl rfl R.c8 rfl ?_
        refine x_if (c := nI 2 ≤ nI 0) (t := 84) rfl rfl (fun c4 => ?_) (fun c4 => ?_)
        · replace c4 := (nI_leI (by omega) (by omega)).mp c4
          omega
        · replace c4 := mt (nI_leI (by omega) (by omega)).mpr c4
          refine x_run 1 (pc' := 83) (lv' := [(0, .ref (X.1 8)), (1, .int (nI r)), (2, .int (nI p))]) (st' := [.long (0)]) rfl ?_
          rw [show o_div p_openM M r p = (6, none, M) from by simp only [o_div, c3, not_true_eq_false, not_false_eq_true, if_true, if_false, ite_true, ite_false, reduceIte, reduceCtorEq, Classical.not_not, Bool.false_eq_true]]
          exact x_ret (v := some (.long (0))) rfl rfl rfl ⟨rfl, _, fun _ => rfl, R.less (by omega) (by omega)⟩
      · replace c3 := Classical.not_not.mp c3
        refine x_run 2 (pc' := 33) (lv' := [(0, .ref (X.1 8)), (1, .int (nI r)), (2, .int (nI p))]) (st' := [.ref (X.1 8), .int (nI p), .ref (X.1 8)]) rfl ?_
        refine x_get (v := .ref (X.1 20)) rfl rfl R.c8 rfl ?_
        refine x_run 1 (pc' := 37) (lv' := [(0, .ref (X.1 8)), (1, .int (nI r)), (2, .int (nI p))]) (st' := [.int (nI r), .ref (X.1 20), .int (nI p), .ref (X.1 8)]) rfl ?_
        refine x_iald (j := r) rfl R.c20 (mm_idx_nI (by omega) (by omega)) ?_
        refine x_if (c := nI p ≤ nI (pN M 3 r)) (t := 49) rfl rfl (fun c5 => ?_) (fun c5 => ?_)
        · replace c5 := (nI_leI (by omega) (by omega)).mp c5
          refine x_run 2 (pc' := 72) (lv' := [(0, .ref (X.1 8)), (1, .int (nI r)), (2, .int (nI p))]) (st' := [.int (2), .ref (X.1 8)]) rfl ?_
          refine x_put rfl rfl R.c8 rfl ?_
          refine gen_h (A := Rep u (v + 60 * (r + 1)) X P M ((2, z.2))) (R.mCode _) (fun h R => ?_)
          refine x_run 1 (pc' := 76) (lv' := [(0, .ref (X.1 8)), (1, .int (nI r)), (2, .int (nI p))]) (st' := [.ref (X.1 8)]) rfl ?_
          refine x_get (v := .int (2)) rfl rfl R.c8 rfl ?_
          refine x_if (c := nI 2 ≤ nI 0) (t := 84) rfl rfl (fun c6 => ?_) (fun c6 => ?_)
          · replace c6 := (nI_leI (by omega) (by omega)).mp c6
            omega
          · replace c6 := mt (nI_leI (by omega) (by omega)).mpr c6
            refine x_run 1 (pc' := 83) (lv' := [(0, .ref (X.1 8)), (1, .int (nI r)), (2, .int (nI p))]) (st' := [.long (0)]) rfl ?_
            rw [show o_div p_openM M r p = (6, none, M) from by simp only [o_div, c3, c5, not_true_eq_false, not_false_eq_true, if_true, if_false, ite_true, ite_false, reduceIte, reduceCtorEq, Classical.not_not, Bool.false_eq_true]]
            exact x_ret (v := some (.long (0))) rfl rfl rfl ⟨rfl, _, fun _ => rfl, R.less (by omega) (by omega)⟩
        · replace c5 := mt (nI_leI (by omega) (by omega)).mpr c5
          refine x_run 2 (pc' := 43) (lv' := [(0, .ref (X.1 8)), (1, .int (nI r)), (2, .int (nI p))]) (st' := [.int (nI r), .ref (X.1 8), .ref (X.1 8)]) rfl ?_
          refine x_rd (v := .int (bI (p_blk M r (pn M) 0))) (k' := 79) (as := [.ref (X.1 8), .int (nI r)]) (rest := [.ref (X.1 8)]) (x_isV (np := 1) rfl rfl rfl R.c8 rfl) (k_blk R hr) ?_
          refine x_if (c := bI (p_blk M r (pn M) 0) = 0) (t := 53) rfl rfl (fun c7 => ?_) (fun c7 => ?_)
          · replace c7 := bI_0.mp c7
            refine x_run 3 (pc' := 56) (lv' := [(0, .ref (X.1 8)), (1, .int (nI r)), (2, .int (nI p))]) (st' := [.int (nI p), .int (nI r), .ref (X.1 8), .ref (X.1 8)]) rfl ?_
            refine x_rd (v := .long (p_need M r (nI p) (pn M) 0 0)) (k' := 80) (as := [.ref (X.1 8), .int (nI r), .int (nI p)]) (rest := [.ref (X.1 8)]) (x_isV (np := 2) rfl rfl rfl R.c8 rfl) (k_need R hr _) ?_
            refine x_run 1 (pc' := 60) (lv' := [(0, .ref (X.1 8)), (1, .int (nI r)), (2, .int (nI p))]) (st' := [.ref (X.1 8), .long (p_need M r (nI p) (pn M) 0 0), .ref (X.1 8)]) rfl ?_
            refine x_get (v := .long (pL M 7 0)) rfl rfl R.c8 rfl ?_
            refine x_lle (t := 71) rfl rfl rfl (fun c8 => ?_) (fun c8 => ?_)
            · refine x_run 1 (pc' := 72) (lv' := [(0, .ref (X.1 8)), (1, .int (nI r)), (2, .int (nI p))]) (st' := [.int (0), .ref (X.1 8)]) rfl ?_
              refine x_put rfl rfl R.c8 rfl ?_
              refine gen_h (A := Rep u (v + 60 * (r + 1)) X P M ((0, z.2))) (R.mCode _) (fun h R => ?_)
              refine x_run 1 (pc' := 76) (lv' := [(0, .ref (X.1 8)), (1, .int (nI r)), (2, .int (nI p))]) (st' := [.ref (X.1 8)]) rfl ?_
              refine x_get (v := .int (0)) rfl rfl R.c8 rfl ?_
              refine x_if (c := nI 0 ≤ nI 0) (t := 84) rfl rfl (fun c9 => ?_) (fun c9 => ?_)
              · replace c9 := (nI_leI (by omega) (by omega)).mp c9
                refine x_run 1 (pc' := 85) (lv' := [(0, .ref (X.1 8)), (1, .int (nI r)), (2, .int (nI p))]) (st' := [.ref (X.1 8)]) rfl ?_
                refine x_get (v := .ref (X.1 20)) rfl rfl R.c8 rfl ?_
                refine x_run 2 (pc' := 90) (lv' := [(0, .ref (X.1 8)), (1, .int (nI r)), (2, .int (nI p))]) (st' := [.int (nI p), .int (nI r), .ref (X.1 20)]) rfl ?_
                refine x_iast (j := r) rfl R.c20 (mm_idx_nI (by omega) (by omega)) ?_
                refine gen_h (A := Rep u (v + 60 * (r + 1)) X P (sN M 3 r (p)) ((0, z.2))) (R.mPct _ (by omega)) (fun h R => ?_)
                refine x_run 2 (pc' := 93) (lv' := [(0, .ref (X.1 8)), (1, .int (nI r)), (2, .int (nI p))]) (st' := [.int (nI r), .ref (X.1 8)]) rfl ?_
                refine x_wr (v := .long ((p_serveR p_openM (r + 1) 0 (sN M 3 r (p)) 0).2)) (A := Rep u v X P ((p_serveR p_openM (r + 1) 0 (sN M 3 r (p)) 0).1) ((0, z.2))) (k' := 82) (as := [.ref (X.1 8), .int (nI r)]) (rest := []) (x_isV (np := 1) rfl rfl rfl R.c8 rfl) (k_through (l := r) R (by omega) h0) (fun h R => ?_)
                rw [show o_div p_openM M r p = (0, some (.long ((p_serveR p_openM (r + 1) 0 (sN M 3 r (p)) 0).2)), (p_serveR p_openM (r + 1) 0 (sN M 3 r (p)) 0).1) from by simp only [o_div, c3, c5, c7, c8, not_true_eq_false, not_false_eq_true, if_true, if_false, ite_true, ite_false, reduceIte, reduceCtorEq, Classical.not_not, Bool.false_eq_true]]
                exact x_ret (v := some (.long ((p_serveR p_openM (r + 1) 0 (sN M 3 r (p)) 0).2))) rfl rfl rfl ⟨rfl, _, fun _ => rfl, R.less (by omega) (by omega)⟩
              · replace c9 := mt (nI_leI (by omega) (by omega)).mpr c9
                omega
            · refine x_run 2 (pc' := 72) (lv' := [(0, .ref (X.1 8)), (1, .int (nI r)), (2, .int (nI p))]) (st' := [.int (3), .ref (X.1 8)]) rfl ?_
              refine x_put rfl rfl R.c8 rfl ?_
              refine gen_h (A := Rep u (v + 60 * (r + 1)) X P M ((3, z.2))) (R.mCode _) (fun h R => ?_)
              refine x_run 1 (pc' := 76) (lv' := [(0, .ref (X.1 8)), (1, .int (nI r)), (2, .int (nI p))]) (st' := [.ref (X.1 8)]) rfl ?_
              refine x_get (v := .int (3)) rfl rfl R.c8 rfl ?_
              refine x_if (c := nI 3 ≤ nI 0) (t := 84) rfl rfl (fun c10 => ?_) (fun c10 => ?_)
              · replace c10 := (nI_leI (by omega) (by omega)).mp c10
                omega
              · replace c10 := mt (nI_leI (by omega) (by omega)).mpr c10
                refine x_run 1 (pc' := 83) (lv' := [(0, .ref (X.1 8)), (1, .int (nI r)), (2, .int (nI p))]) (st' := [.long (0)]) rfl ?_
                rw [show o_div p_openM M r p = (8, none, M) from by simp only [o_div, c3, c5, c7, c8, not_true_eq_false, not_false_eq_true, if_true, if_false, ite_true, ite_false, reduceIte, reduceCtorEq, Classical.not_not, Bool.false_eq_true]]
                exact x_ret (v := some (.long (0))) rfl rfl rfl ⟨rfl, _, fun _ => rfl, R.less (by omega) (by omega)⟩
          · replace c7 := bI_n0 c7
            refine x_run 2 (pc' := 72) (lv' := [(0, .ref (X.1 8)), (1, .int (nI r)), (2, .int (nI p))]) (st' := [.int (2), .ref (X.1 8)]) rfl ?_
            refine x_put rfl rfl R.c8 rfl ?_
            refine gen_h (A := Rep u (v + 60 * (r + 1)) X P M ((2, z.2))) (R.mCode _) (fun h R => ?_)
            refine x_run 1 (pc' := 76) (lv' := [(0, .ref (X.1 8)), (1, .int (nI r)), (2, .int (nI p))]) (st' := [.ref (X.1 8)]) rfl ?_
            refine x_get (v := .int (2)) rfl rfl R.c8 rfl ?_
            refine x_if (c := nI 2 ≤ nI 0) (t := 84) rfl rfl (fun c11 => ?_) (fun c11 => ?_)
            · replace c11 := (nI_leI (by omega) (by omega)).mp c11
              omega
            · replace c11 := mt (nI_leI (by omega) (by omega)).mpr c11
              refine x_run 1 (pc' := 83) (lv' := [(0, .ref (X.1 8)), (1, .int (nI r)), (2, .int (nI p))]) (st' := [.long (0)]) rfl ?_
              rw [show o_div p_openM M r p = (6, none, M) from by simp only [o_div, c3, c5, c7, not_true_eq_false, not_false_eq_true, if_true, if_false, ite_true, ite_false, reduceIte, reduceCtorEq, Classical.not_not, Bool.false_eq_true]]
              exact x_ret (v := some (.long (0))) rfl rfl rfl ⟨rfl, _, fun _ => rfl, R.less (by omega) (by omega)⟩
    · replace c2 := bI_0.mp (Classical.not_not.mp c2)
      cases c2
theorem k_divX (R : Rep u v X P M z h) {q : Int32} (hq : q < 0 ∨ 8 ≤ q) (p : Int32) : Wx (d + 4) 81 0 (lv_args 0 [.ref (X.1 8), .int (q), .int (p)]) [] h (mQ u v X P z (1, (some (.long 0)), M)) := by
  show Wx _ _ 0 [(0, .ref (X.1 8)), (1, .int (q)), (2, .int (p))] [] h _
  refine x_run 2 (pc' := 2) (lv' := [(0, .ref (X.1 8)), (1, .int (q)), (2, .int (p))]) (st' := [.int (q), .ref (X.1 8)]) rfl ?_
  refine x_rd (v := .int (bI (false))) (k' := 58) (as := [.int (q)]) (rest := [.ref (X.1 8)]) (x_isS (np := 1) rfl rfl rfl rfl rfl) (k_isRf hq) ?_
  refine x_if (c := bI (false) = 0) (t := 20) rfl rfl (fun c1 => ?_) (fun c1 => ?_)
  · replace c1 := bI_0.mp c1
    refine x_run 2 (pc' := 72) (lv' := [(0, .ref (X.1 8)), (1, .int (q)), (2, .int (p))]) (st' := [.int (1), .ref (X.1 8)]) rfl ?_
    refine x_put rfl rfl R.c8 rfl ?_
    refine gen_h (A := Rep u v X P M ((1, z.2))) (R.mCode _) (fun h R => ?_)
    refine x_run 1 (pc' := 76) (lv' := [(0, .ref (X.1 8)), (1, .int (q)), (2, .int (p))]) (st' := [.ref (X.1 8)]) rfl ?_
    refine x_get (v := .int (1)) rfl rfl R.c8 rfl ?_
    refine x_if (c := nI 1 ≤ nI 0) (t := 84) rfl rfl (fun c2 => ?_) (fun c2 => ?_)
    · replace c2 := (nI_leI (by omega) (by omega)).mp c2
      omega
    · replace c2 := mt (nI_leI (by omega) (by omega)).mpr c2
      refine x_run 1 (pc' := 83) (lv' := [(0, .ref (X.1 8)), (1, .int (q)), (2, .int (p))]) (st' := [.long (0)]) rfl ?_
      exact x_ret (v := some (.long (0))) rfl rfl rfl ⟨rfl, _, fun _ => rfl, R⟩
  · replace c1 := bI_n0 c1
    cases c1
theorem k_divPX (R : Rep u v X P M z h) {r : Nat} (hr : r < 8) {p : Int32} (hp : p < 1 ∨ 10000 < p) : Wx (d + 4) 81 0 (lv_args 0 [.ref (X.1 8), .int (nI r), .int (p)]) [] h (mQ u v X P z (1, (some (.long 0)), M)) := by
  show Wx _ _ 0 [(0, .ref (X.1 8)), (1, .int (nI r)), (2, .int (p))] [] h _
  refine x_run 2 (pc' := 2) (lv' := [(0, .ref (X.1 8)), (1, .int (nI r)), (2, .int (p))]) (st' := [.int (nI r), .ref (X.1 8)]) rfl ?_
  refine x_rd (v := .int (bI (true))) (k' := 58) (as := [.int (nI r)]) (rest := [.ref (X.1 8)]) (x_isS (np := 1) rfl rfl rfl rfl rfl) (k_isRt hr) ?_
  refine x_if (c := bI (true) = 0) (t := 20) rfl rfl (fun c1 => ?_) (fun c1 => ?_)
  · replace c1 := bI_0.mp c1
    cases c1
  · replace c1 := bI_n0 c1
    refine x_run 3 (pc' := 11) (lv' := [(0, .ref (X.1 8)), (1, .int (nI r)), (2, .int (p))]) (st' := [.long (1), .long ((p).toInt64), .ref (X.1 8)]) rfl ?_
    refine x_ldc2 (x := 10000) rfl rfl ?_
    refine x_rd (v := .int (bI (false))) (k' := 55) (as := [.long ((p).toInt64), .long (1), .long (10000)]) (rest := [.ref (X.1 8)]) (x_isS (np := 3) rfl rfl rfl rfl rfl) (k_inE (pct_f hp)) ?_
    refine x_if (c := ¬ bI (false) = 0) (t := 24) rfl rfl (fun c2 => ?_) (fun c2 => ?_)
    · replace c2 := bI_n0 c2
      cases c2
    · replace c2 := bI_0.mp (Classical.not_not.mp c2)
      refine x_run 2 (pc' := 72) (lv' := [(0, .ref (X.1 8)), (1, .int (nI r)), (2, .int (p))]) (st' := [.int (1), .ref (X.1 8)]) rfl ?_
      refine x_put rfl rfl R.c8 rfl ?_
      refine gen_h (A := Rep u v X P M ((1, z.2))) (R.mCode _) (fun h R => ?_)
      refine x_run 1 (pc' := 76) (lv' := [(0, .ref (X.1 8)), (1, .int (nI r)), (2, .int (p))]) (st' := [.ref (X.1 8)]) rfl ?_
      refine x_get (v := .int (1)) rfl rfl R.c8 rfl ?_
      refine x_if (c := nI 1 ≤ nI 0) (t := 84) rfl rfl (fun c3 => ?_) (fun c3 => ?_)
      · replace c3 := (nI_leI (by omega) (by omega)).mp c3
        omega
      · replace c3 := mt (nI_leI (by omega) (by omega)).mpr c3
        refine x_run 1 (pc' := 83) (lv' := [(0, .ref (X.1 8)), (1, .int (nI r)), (2, .int (p))]) (st' := [.long (0)]) rfl ?_
        exact x_ret (v := some (.long (0))) rfl rfl rfl ⟨rfl, _, fun _ => rfl, R⟩
theorem k_catch (R : Rep u (v + 60 * (7 + 1)) X P M z h) (h0 : 0 ≤ pL M 7 0) : Wx (d + 4) 84 0 (lv_args 0 [.ref (X.1 8)]) [] h (mQ u v X P z (mo (cd 6 99 99) (some (.long 0)) (o_catch p_openM M))) := by
  show Wx _ _ 0 [(0, .ref (X.1 8))] [] h _
  refine x_run 2 (pc' := 2) (lv' := [(0, .ref (X.1 8))]) (st' := [.ref (X.1 8), .ref (X.1 8)]) rfl ?_
  refine x_get (v := .int (pI M 4 0)) rfl rfl R.c8 rfl ?_
  refine x_if (c := pI M 4 0 = 0) (t := 12) rfl rfl (fun c1 => ?_) (fun c1 => ?_)
  · refine x_run 1 (pc' := 13) (lv' := [(0, .ref (X.1 8))]) (st' := [.int (0), .ref (X.1 8)]) rfl ?_
    refine x_put rfl rfl R.c8 rfl ?_
    refine gen_h (A := Rep u (v + 60 * (7 + 1)) X P M ((0, z.2))) (R.mCode _) (fun h R => ?_)
    refine x_run 1 (pc' := 17) (lv' := [(0, .ref (X.1 8))]) (st' := [.ref (X.1 8)]) rfl ?_
    refine x_get (v := .int (0)) rfl rfl R.c8 rfl ?_
    refine x_if (c := nI 0 ≤ nI 0) (t := 27) rfl rfl (fun c2 => ?_) (fun c2 => ?_)
    · replace c2 := (nI_leI (by omega) (by omega)).mp c2
      refine x_run 2 (pc' := 30) (lv' := [(0, .ref (X.1 8))]) (st' := [.int (7), .ref (X.1 8)]) rfl ?_
      refine x_wr (v := .long ((p_serveR p_openM (7 + 1) 0 M 0).2)) (A := Rep u v X P ((p_serveR p_openM (7 + 1) 0 M 0).1) ((0, z.2))) (k' := 82) (as := [.ref (X.1 8), .int (7)]) (rest := []) (x_isV (np := 1) rfl rfl rfl R.c8 rfl) (k_through (l := 7) R (by omega) h0) (fun h R => ?_)
      rw [show o_catch p_openM M = (0, some (.long ((p_serveR p_openM (7 + 1) 0 M 0).2)), (p_serveR p_openM (7 + 1) 0 M 0).1) from by simp only [o_catch, c1, not_true_eq_false, not_false_eq_true, if_true, if_false, ite_true, ite_false, reduceIte, reduceCtorEq, Classical.not_not, Bool.false_eq_true]]
      exact x_ret (v := some (.long ((p_serveR p_openM (7 + 1) 0 M 0).2))) rfl rfl rfl ⟨rfl, _, fun _ => rfl, R.less (by omega) (by omega)⟩
    · replace c2 := mt (nI_leI (by omega) (by omega)).mpr c2
      omega
  · refine x_run 2 (pc' := 13) (lv' := [(0, .ref (X.1 8))]) (st' := [.int (1), .ref (X.1 8)]) rfl ?_
    refine x_put rfl rfl R.c8 rfl ?_
    refine gen_h (A := Rep u (v + 60 * (7 + 1)) X P M ((1, z.2))) (R.mCode _) (fun h R => ?_)
    refine x_run 1 (pc' := 17) (lv' := [(0, .ref (X.1 8))]) (st' := [.ref (X.1 8)]) rfl ?_
    refine x_get (v := .int (1)) rfl rfl R.c8 rfl ?_
    refine x_if (c := nI 1 ≤ nI 0) (t := 27) rfl rfl (fun c3 => ?_) (fun c3 => ?_)
    · replace c3 := (nI_leI (by omega) (by omega)).mp c3
      omega
    · replace c3 := mt (nI_leI (by omega) (by omega)).mpr c3
      refine x_run 2 (pc' := 33) (lv' := [(0, .ref (X.1 8))]) (st' := [.long (0)]) rfl ?_
      rw [show o_catch p_openM M = (6, none, M) from by simp only [o_catch, c1, not_true_eq_false, not_false_eq_true, if_true, if_false, ite_true, ite_false, reduceIte, reduceCtorEq, Classical.not_not, Bool.false_eq_true]]
      exact x_ret (v := some (.long (0))) rfl rfl rfl ⟨rfl, _, fun _ => rfl, R.less (by omega) (by omega)⟩
/-- the reference halves what lies between -/
def m_bis (P : pP) (r : Nat) : Nat → Nat → Nat → Nat
  | 0, lo, _ => lo
  | m + 1, lo, hi => if lo < hi then (if p_need P r (nI ((lo + hi + 1) / 2)) (pn P) 0 0 ≤ pL P 7 0 then m_bis P r m ((lo + hi + 1) / 2) hi else m_bis P r m lo ((lo + hi + 1) / 2 - 1)) else lo
def m_greatest (P : pP) (r : Nat) : Int32 := if ¬ pI P 4 0 = 0 then -1 else if p_blk P r (pn P) 0 = true then -1 else nI (m_bis P r 10000 (pN P 3 r) 10000)
theorem k_great (R : Rep u v X P M z h) {r : Nat} (hr : r < 8) : ∀ (m a b : Nat), b - a ≤ m → a ≤ b → b ≤ 10000 → Wx (d + 4) 83 53 [(3, .int (nI b)), (2, .int (nI a)), (0, .ref (X.1 8)), (1, .int (nI r))] [] h (fun r0 => r0 = (.inl (some (.int (nI (m_bis M r m a b)))), h)) := by
  intro m
  induction m with
  | zero =>
    intro a b hm ha hb
    refine x_run 2 (pc' := 55) (lv' := [(3, .int (nI b)), (2, .int (nI a)), (0, .ref (X.1 8)), (1, .int (nI r))]) (st' := [.int (nI b), .int (nI a)]) rfl ?_
    refine x_if (c := nI b ≤ nI a) (t := 96) rfl rfl (fun c1 => ?_) (fun c1 => ?_)
    · replace c1 := (nI_leI (by omega) (by omega)).mp c1
      refine x_run 1 (pc' := 97) (lv' := [(3, .int (nI b)), (2, .int (nI a)), (0, .ref (X.1 8)), (1, .int (nI r))]) (st' := [.int (nI a)]) rfl ?_
      refine x_ret (v := some (.int (nI a))) rfl rfl rfl ?_
      rfl
    · replace c1 := mt (nI_leI (by omega) (by omega)).mpr c1
      omega
  | succ m ih =>
    intro a b hm ha hb
    refine x_run 2 (pc' := 55) (lv' := [(3, .int (nI b)), (2, .int (nI a)), (0, .ref (X.1 8)), (1, .int (nI r))]) (st' := [.int (nI b), .int (nI a)]) rfl ?_
    refine x_if (c := nI b ≤ nI a) (t := 96) rfl rfl (fun c1 => ?_) (fun c1 => ?_)
    · replace c1 := (nI_leI (by omega) (by omega)).mp c1
      refine x_run 1 (pc' := 97) (lv' := [(3, .int (nI b)), (2, .int (nI a)), (0, .ref (X.1 8)), (1, .int (nI r))]) (st' := [.int (nI a)]) rfl ?_
      refine x_ret (v := some (.int (nI a))) rfl rfl rfl ?_
      simp only [m_bis, if_neg (show ¬ a < b by omega)]
    · replace c1 := mt (nI_leI (by omega) (by omega)).mpr c1
      refine x_run 3 (pc' := 61) (lv' := [(3, .int (nI b)), (2, .int (nI a)), (0, .ref (X.1 8)), (1, .int (nI r))]) (st' := [.int ((nI a) + (nI b))]) rfl ?_
      rw [nI_add]
      refine x_run 2 (pc' := 63) (lv' := [(3, .int (nI b)), (2, .int (nI a)), (0, .ref (X.1 8)), (1, .int (nI r))]) (st' := [.int ((nI (a + b)) + (nI 1))]) rfl ?_
      rw [nI_add]
      refine x_run 2 (pc' := 65) (lv' := [(3, .int (nI b)), (2, .int (nI a)), (0, .ref (X.1 8)), (1, .int (nI r))]) (st' := [.int ((nI ((a + b) + 1)) / nI 2)]) rfl ?_
      rw [pk_div (by omega) (by omega) (by omega)]
      refine x_run 4 (pc' := 71) (lv' := [(4, .int (nI (((a + b) + 1) / 2))), (3, .int (nI b)), (2, .int (nI a)), (0, .ref (X.1 8)), (1, .int (nI r))]) (st' := [.int (nI (((a + b) + 1) / 2)), .int (nI r), .ref (X.1 8)]) rfl ?_
      refine x_rd (v := .long (p_need M r (nI (((a + b) + 1) / 2)) (pn M) 0 0)) (k' := 80) (as := [.ref (X.1 8), .int (nI r), .int (nI (((a + b) + 1) / 2))]) (rest := []) (x_isV (np := 2) rfl rfl rfl R.c8 rfl) (k_need R hr _) ?_
      refine x_run 1 (pc' := 75) (lv' := [(4, .int (nI (((a + b) + 1) / 2))), (3, .int (nI b)), (2, .int (nI a)), (0, .ref (X.1 8)), (1, .int (nI r))]) (st' := [.ref (X.1 8), .long (p_need M r (nI (((a + b) + 1) / 2)) (pn M) 0 0)]) rfl ?_
      refine x_get (v := .long (pL M 7 0)) rfl rfl R.c8 rfl ?_
      refine x_lgt (t := 88) rfl rfl rfl (fun c2 => ?_) (fun c2 => ?_)
      · refine x_run 3 (pc' := 92) (lv' := [(4, .int (nI (((a + b) + 1) / 2))), (3, .int (nI b)), (2, .int (nI a)), (0, .ref (X.1 8)), (1, .int (nI r))]) (st' := [.int (nI (((a + b) + 1) / 2) - nI 1)]) rfl ?_
        rw [pk_sub (by omega)]
        refine x_run 2 (pc' := 53) (lv' := [(3, .int (nI (((a + b) + 1) / 2 - 1))), (4, .int (nI (((a + b) + 1) / 2))), (2, .int (nI a)), (0, .ref (X.1 8)), (1, .int (nI r))]) (st' := []) rfl ?_
        refine x_lv (a := [(3, .int (nI (((a + b) + 1) / 2 - 1))), (2, .int (nI a)), (0, .ref (X.1 8)), (1, .int (nI r))]) rfl rfl ⟨rfl, rfl, rfl, rfl, trivial⟩ ?_
        rw [show m_bis M r (m + 1) a b = m_bis M r m a ((a + b + 1) / 2 - 1) from by rw [m_bis, if_pos (by omega), if_neg (Int64.not_le.mpr c2)]]
        exact ih _ _ (by omega) (by omega) (by omega)
      · refine x_run 4 (pc' := 53) (lv' := [(2, .int (nI (((a + b) + 1) / 2))), (4, .int (nI (((a + b) + 1) / 2))), (3, .int (nI b)), (0, .ref (X.1 8)), (1, .int (nI r))]) (st' := []) rfl ?_
        refine x_lv (a := [(3, .int (nI b)), (2, .int (nI (((a + b) + 1) / 2))), (0, .ref (X.1 8)), (1, .int (nI r))]) rfl rfl ⟨rfl, rfl, rfl, rfl, trivial⟩ ?_
        rw [show m_bis M r (m + 1) a b = m_bis M r m ((a + b + 1) / 2) b from by rw [m_bis, if_pos (by omega), if_pos (Int64.not_lt.mp c2)]]
        exact ih _ _ (by omega) (by omega) (by omega)
theorem k_greatest (R : Rep u v X P M z h) {r : Nat} (hr : r < 8) : Wx (d + 4) 83 0 (lv_args 0 [.ref (X.1 8), .int (nI r)]) [] h (mQ u v X P z (0, some (.int (m_greatest M r)), M)) := by
  have p4 := R.wM.pc r
  show Wx _ _ 0 [(0, .ref (X.1 8)), (1, .int (nI r))] [] h _
  refine x_run 2 (pc' := 2) (lv' := [(0, .ref (X.1 8)), (1, .int (nI r))]) (st' := [.int (nI r), .ref (X.1 8)]) rfl ?_
  refine x_rd (v := .int (bI (true))) (k' := 58) (as := [.int (nI r)]) (rest := [.ref (X.1 8)]) (x_isS (np := 1) rfl rfl rfl rfl rfl) (k_isRt hr) ?_
  refine x_if (c := bI (true) = 0) (t := 12) rfl rfl (fun c1 => ?_) (fun c1 => ?_)
  · replace c1 := bI_0.mp c1
    cases c1
  · replace c1 := bI_n0 c1
    refine x_run 2 (pc' := 13) (lv' := [(0, .ref (X.1 8)), (1, .int (nI r))]) (st' := [.int (0), .ref (X.1 8)]) rfl ?_
    refine x_put rfl rfl R.c8 rfl ?_
    refine gen_h (A := Rep u v X P M ((0, z.2))) (R.mCode _) (fun h R => ?_)
    refine x_run 1 (pc' := 17) (lv' := [(0, .ref (X.1 8)), (1, .int (nI r))]) (st' := [.ref (X.1 8)]) rfl ?_
    refine x_get (v := .int (0)) rfl rfl R.c8 rfl ?_
    refine x_if (c := nI 0 ≤ nI 0) (t := 25) rfl rfl (fun c2 => ?_) (fun c2 => ?_)
    · replace c2 := (nI_leI (by omega) (by omega)).mp c2
      refine x_run 1 (pc' := 26) (lv' := [(0, .ref (X.1 8)), (1, .int (nI r))]) (st' := [.ref (X.1 8)]) rfl ?_
      refine x_get (v := .int (pI M 4 0)) rfl rfl R.c8 rfl ?_
      refine x_if (c := ¬ pI M 4 0 = 0) (t := 40) rfl rfl (fun c3 => ?_) (fun c3 => ?_)
      · refine x_run 1 (pc' := 41) (lv' := [(0, .ref (X.1 8)), (1, .int (nI r))]) (st' := [.int (-1)]) rfl ?_
        rw [show m_greatest M r = -1 from by simp only [m_greatest, c3, not_true_eq_false, not_false_eq_true, if_true, if_false, ite_true, ite_false, reduceIte, reduceCtorEq, Classical.not_not, Bool.false_eq_true, ite_self]]
        exact x_ret (v := some (.int (-1))) rfl rfl rfl ⟨rfl, _, fun _ => rfl, R⟩
      · replace c3 := Classical.not_not.mp c3
        refine x_run 2 (pc' := 34) (lv' := [(0, .ref (X.1 8)), (1, .int (nI r))]) (st' := [.int (nI r), .ref (X.1 8)]) rfl ?_
        refine x_rd (v := .int (bI (p_blk M r (pn M) 0))) (k' := 79) (as := [.ref (X.1 8), .int (nI r)]) (rest := []) (x_isV (np := 1) rfl rfl rfl R.c8 rfl) (k_blk R hr) ?_
        refine x_if (c := bI (p_blk M r (pn M) 0) = 0) (t := 42) rfl rfl (fun c4 => ?_) (fun c4 => ?_)
        · replace c4 := bI_0.mp c4
          refine x_run 1 (pc' := 43) (lv' := [(0, .ref (X.1 8)), (1, .int (nI r))]) (st' := [.ref (X.1 8)]) rfl ?_
          refine x_get (v := .ref (X.1 20)) rfl rfl R.c8 rfl ?_
          refine x_run 1 (pc' := 47) (lv' := [(0, .ref (X.1 8)), (1, .int (nI r))]) (st' := [.int (nI r), .ref (X.1 20)]) rfl ?_
          refine x_iald (j := r) rfl R.c20 (mm_idx_nI (by omega) (by omega)) ?_
          refine x_run 3 (pc' := 53) (lv' := [(3, .int (10000)), (2, .int (nI (pN M 3 r))), (0, .ref (X.1 8)), (1, .int (nI r))]) (st' := []) rfl ?_
          refine x_lv (a := [(3, .int (10000)), (2, .int (nI (pN M 3 r))), (0, .ref (X.1 8)), (1, .int (nI r))]) rfl rfl ⟨rfl, rfl, rfl, rfl, trivial⟩ ?_
          rw [show m_greatest M r = nI (m_bis M r 10000 (pN M 3 r) 10000) from by simp only [m_greatest, c3, c4, not_true_eq_false, not_false_eq_true, if_true, if_false, ite_true, ite_false, reduceIte, reduceCtorEq, Classical.not_not, Bool.false_eq_true]]
          exact (k_great R hr 10000 (pN M 3 r) 10000 (by omega) (by omega) (by omega)).mono (fun r0 e => by rw [e]; exact ⟨rfl, _, fun _ => rfl, R⟩)
        · replace c4 := bI_n0 c4
          refine x_run 1 (pc' := 41) (lv' := [(0, .ref (X.1 8)), (1, .int (nI r))]) (st' := [.int (-1)]) rfl ?_
          rw [show m_greatest M r = -1 from by simp only [m_greatest, c3, c4, not_true_eq_false, not_false_eq_true, if_true, if_false, ite_true, ite_false, reduceIte, reduceCtorEq, Classical.not_not, Bool.false_eq_true, ite_self]]
          exact x_ret (v := some (.int (-1))) rfl rfl rfl ⟨rfl, _, fun _ => rfl, R⟩
    · replace c2 := mt (nI_leI (by omega) (by omega)).mpr c2
      omega
theorem k_greatestX (R : Rep u v X P M z h) {q : Int32} (hq : q < 0 ∨ 8 ≤ q) : Wx (d + 4) 83 0 (lv_args 0 [.ref (X.1 8), .int (q)]) [] h (mQ u v X P z (1, (some (.int 0)), M)) := by
  show Wx _ _ 0 [(0, .ref (X.1 8)), (1, .int (q))] [] h _
  refine x_run 2 (pc' := 2) (lv' := [(0, .ref (X.1 8)), (1, .int (q))]) (st' := [.int (q), .ref (X.1 8)]) rfl ?_
  refine x_rd (v := .int (bI (false))) (k' := 58) (as := [.int (q)]) (rest := [.ref (X.1 8)]) (x_isS (np := 1) rfl rfl rfl rfl rfl) (k_isRf hq) ?_
  refine x_if (c := bI (false) = 0) (t := 12) rfl rfl (fun c1 => ?_) (fun c1 => ?_)
  · replace c1 := bI_0.mp c1
    refine x_run 1 (pc' := 13) (lv' := [(0, .ref (X.1 8)), (1, .int (q))]) (st' := [.int (1), .ref (X.1 8)]) rfl ?_
    refine x_put rfl rfl R.c8 rfl ?_
    refine gen_h (A := Rep u v X P M ((1, z.2))) (R.mCode _) (fun h R => ?_)
    refine x_run 1 (pc' := 17) (lv' := [(0, .ref (X.1 8)), (1, .int (q))]) (st' := [.ref (X.1 8)]) rfl ?_
    refine x_get (v := .int (1)) rfl rfl R.c8 rfl ?_
    refine x_if (c := nI 1 ≤ nI 0) (t := 25) rfl rfl (fun c2 => ?_) (fun c2 => ?_)
    · replace c2 := (nI_leI (by omega) (by omega)).mp c2
      omega
    · replace c2 := mt (nI_leI (by omega) (by omega)).mpr c2
      refine x_run 1 (pc' := 24) (lv' := [(0, .ref (X.1 8)), (1, .int (q))]) (st' := [.int (0)]) rfl ?_
      exact x_ret (v := some (.int (0))) rfl rfl rfl ⟨rfl, _, fun _ => rfl, R⟩
  · replace c1 := bI_n0 c1
    cases c1
end MOD4
