section LAW2
variable {u v d : Nat} {X : xX} {P M : pP} {z : zZ} {h : mm_H} {i j : Nat}
theorem nI_6 {c : Int32} (h : ¬ (c.toInt < 0 ∨ 5 < c.toInt)) : ∃ j, j < 6 ∧ c = nI j := by
  rcases pk_ix c (n := 6) (by omega) with a | a | a
  · rw [Int32.lt_iff_toInt_lt, show (0 : Int32).toInt = 0 from by decide] at a; omega
  · rw [Int32.le_iff_toInt_le, nI_toInt (by omega)] at a; omega
  · exact a
theorem op_sum (P : pP) (c : Int32) : ∃ x : Int64, (∀ (u v : Nat) (X : xX) (M : pP) (z : zZ) (h : mm_H) (d : Nat), Rep u v X P M z h → Wx (d + 7) 15 0 (lv_args 0 [.ref (X.1 0), .int c]) [] h (fun r0 => r0 = (.inl (some (.long x)), h))) ∧ opM P 92 [.int c] (0, some (.long x), P) := by
  by_cases hw : c.toInt < 0 ∨ 5 < c.toInt
  · exact ⟨-1, fun _ _ _ _ _ _ _ R => c_sumX R hw, fun _ _ _ _ _ _ _ R => k_sumX (R.less (by omega) (by omega)) hw⟩
  · obtain ⟨j, hj, rfl⟩ := nI_6 hw
    have hj : j = 0 ∨ j = 1 ∨ j = 2 ∨ j = 3 ∨ j = 4 ∨ j = 5 := by omega
    rcases hj with rfl | rfl | rfl | rfl | rfl | rfl
    · exact ⟨_, fun _ _ _ _ _ _ _ R => c_sum0 R, fun _ _ _ _ _ _ _ R => k_sum0 (R.less (by omega) (by omega))⟩
    · exact ⟨_, fun _ _ _ _ _ _ _ R => c_sum1 R, fun _ _ _ _ _ _ _ R => k_sum1 (R.less (by omega) (by omega))⟩
    · exact ⟨_, fun _ _ _ _ _ _ _ R => c_sum2 R, fun _ _ _ _ _ _ _ R => k_sum2 (R.less (by omega) (by omega))⟩
    · exact ⟨_, fun _ _ _ _ _ _ _ R => c_sum3 R, fun _ _ _ _ _ _ _ R => k_sum3 (R.less (by omega) (by omega))⟩
    · exact ⟨_, fun _ _ _ _ _ _ _ R => c_sum4 R, fun _ _ _ _ _ _ _ R => k_sum4 (R.less (by omega) (by omega))⟩
    · exact ⟨_, fun _ _ _ _ _ _ _ R => c_sum5 R, fun _ _ _ _ _ _ _ R => k_sum5 (R.less (by omega) (by omega))⟩
theorem s_sum {Q : mm_O × mm_H → Prop} (R : Rep u (v + 1020) X P P z h) (hl : i + 5 ≤ X.2.2.1) (hL : X.2.2.1 ≤ 2560) (kk : ∀ (z : zZ) (h : mm_H), Rep u v X P P z h → Wx (d + 9) 110 1234 [(4, .int (nI i)), (0, .ref (X.1 28)), (1, .ref (X.1 0)), (2, .ref (X.1 8)), (3, .ref (X.1 27))] [] h Q) : Wx (d + 9) 110 1128 [(4, .int (nI i)), (0, .ref (X.1 28)), (1, .ref (X.1 0)), (2, .ref (X.1 8)), (3, .ref (X.1 27))] [] h Q := by
  obtain ⟨x, wc, wm⟩ := op_sum P (X.2.2.2 (i + 1))
  refine x_run 5 (pc' := 1134) (lv' := [(4, .int (nI i)), (0, .ref (X.1 28)), (1, .ref (X.1 0)), (2, .ref (X.1 8)), (3, .ref (X.1 27))]) (st' := [.int ((nI i) + (nI 1)), .ref (X.1 28), .ref (X.1 0)]) rfl ?_
  rw [nI_add]
  refine x_sald (j := i + 1) rfl R.c28 (mm_idx_nI (by omega) (by omega)) ?_
  refine x_rd (v := .long (x)) (k' := 15) (as := [.ref (X.1 0), .int (X.2.2.2 (i + 1))]) (rest := []) (x_isV (np := 1) rfl rfl rfl R.c0 rfl) (wc _ _ X P z h (d + 1) R) ?_
  refine x_run 5 (pc' := 1144) (lv' := [(4, .int (nI i)), (0, .ref (X.1 28)), (1, .ref (X.1 0)), (2, .ref (X.1 8)), (3, .ref (X.1 27))]) (st' := [.int ((nI i) + (nI 1)), .ref (X.1 28), .ref (X.1 8), .long (x)]) rfl ?_
  rw [nI_add]
  refine x_sald (j := i + 1) rfl R.c28 (mm_idx_nI (by omega) (by omega)) ?_
  refine x_wr (v := .long (x)) (A := fun h => ∃ s, Rep u v X P P (0, s) h) (k' := 92) (as := [.ref (X.1 8), .int (X.2.2.2 (i + 1))]) (rest := [.long (x)]) (x_isV (np := 1) rfl rfl rfl R.c8 rfl) ((wm u v X P z h (d + 1) R).mono (fun r e => ⟨e.1, by obtain ⟨_, s, _, q⟩ := e; exact ⟨s, q⟩⟩)) (fun h R => ?_)
  obtain ⟨s, R⟩ := R
  refine x_leq (t := 1234) rfl rfl rfl (fun c1 => ?_) (fun c1 => ?_)
  · refine x_lv (a := [(4, .int (nI i)), (0, .ref (X.1 28)), (1, .ref (X.1 0)), (2, .ref (X.1 8)), (3, .ref (X.1 27))]) rfl rfl ⟨rfl, rfl, rfl, rfl, rfl, trivial⟩ ?_
    exact kk _ h R
  · exact absurd rfl c1
theorem s_entries {Q : mm_O × mm_H → Prop} (R : Rep u (v + 1020) X P P z h) (kk : ∀ (z : zZ) (h : mm_H), Rep u v X P P z h → Wx (d + 9) 110 1234 [(4, .int (nI i)), (0, .ref (X.1 28)), (1, .ref (X.1 0)), (2, .ref (X.1 8)), (3, .ref (X.1 27))] [] h Q) : Wx (d + 9) 110 1154 [(4, .int (nI i)), (0, .ref (X.1 28)), (1, .ref (X.1 0)), (2, .ref (X.1 8)), (3, .ref (X.1 27))] [] h Q := by
  refine x_run 1 (pc' := 1155) (lv' := [(4, .int (nI i)), (0, .ref (X.1 28)), (1, .ref (X.1 0)), (2, .ref (X.1 8)), (3, .ref (X.1 27))]) (st' := [.ref (X.1 0)]) rfl ?_
  refine x_rd (v := .int (nI (pj P))) (k' := 16) (as := [.ref (X.1 0)]) (rest := []) (x_isV (np := 0) rfl rfl rfl R.c0 rfl) (c_entries R) ?_
  refine x_run 1 (pc' := 1159) (lv' := [(4, .int (nI i)), (0, .ref (X.1 28)), (1, .ref (X.1 0)), (2, .ref (X.1 8)), (3, .ref (X.1 27))]) (st' := [.ref (X.1 8), .int (nI (pj P))]) rfl ?_
  refine x_wr (v := .int (nI (pj P))) (A := fun h => ∃ s, Rep u v X P P (0, s) h) (k' := 93) (as := [.ref (X.1 8)]) (rest := [.int (nI (pj P))]) (x_isV (np := 0) rfl rfl rfl R.c8 rfl) ((k_entries (u := u) (v := v) (R.less (Nat.le_refl _) (by omega))).mono (fun r e => ⟨e.1, by obtain ⟨_, s, _, q⟩ := e; exact ⟨s, q⟩⟩)) (fun h R => ?_)
  obtain ⟨s, R⟩ := R
  refine x_if (c := nI (pj P) = nI (pj P)) (t := 1234) rfl rfl (fun c1 => ?_) (fun c1 => ?_)
  · refine x_lv (a := [(4, .int (nI i)), (0, .ref (X.1 28)), (1, .ref (X.1 0)), (2, .ref (X.1 8)), (3, .ref (X.1 27))]) rfl rfl ⟨rfl, rfl, rfl, rfl, rfl, trivial⟩ ?_
    exact kk _ h R
  · exact absurd rfl c1
theorem len5 {n i : Nat} (hn : n ≤ 2560) (hi : i ≤ 2560) : nI n - 5 < nI i ↔ n < i + 5 := by
  rw [Int32.lt_iff_toInt_lt, show (nI n - 5 : Int32).toInt = (n : Int) - 5 from pk_sub_toInt (b := 5) (by omega) (by omega), nI_toInt (by omega)]
  omega
theorem sw17 (x : Int32) : x = 0 ∨ x = 1 ∨ x = 2 ∨ x = 3 ∨ x = 4 ∨ x = 5 ∨ x = 6 ∨ x = 7 ∨ x = 8 ∨ x = 9 ∨ x = 10 ∨ x = 11 ∨ x = 12 ∨ x = 13 ∨ x = 14 ∨ x = 15 ∨ x = 16 ∨ (x.toInt < 0 ∨ 16 < x.toInt) := by
  rcases pk_ix x (n := 17) (by omega) with a | a | ⟨j, hj, rfl⟩
  · rw [Int32.lt_iff_toInt_lt, show (0 : Int32).toInt = 0 from by decide] at a
    simp [a]
  · rw [Int32.le_iff_toInt_le, nI_toInt (by omega)] at a
    have : 16 < x.toInt := by omega
    simp [this]
  · have hj : j = 0 ∨ j = 1 ∨ j = 2 ∨ j = 3 ∨ j = 4 ∨ j = 5 ∨ j = 6 ∨ j = 7 ∨ j = 8 ∨ j = 9 ∨ j = 10 ∨ j = 11 ∨ j = 12 ∨ j = 13 ∨ j = 14 ∨ j = 15 ∨ j = 16 := by omega
    rcases hj with rfl | rfl | rfl | rfl | rfl | rfl | rfl | rfl | rfl | rfl | rfl | rfl | rfl | rfl | rfl | rfl | rfl <;> decide
abbrev lwQ (r : mm_O × mm_H) : Prop := r.1 = .inl (some (.int 1))
theorem s_next {Q : mm_O × mm_H → Prop} (kk : Wx (d + 9) 110 23 [(4, .int (nI (i + 5))), (0, .ref (X.1 28)), (1, .ref (X.1 0)), (2, .ref (X.1 8)), (3, .ref (X.1 27))] [] h Q) : Wx (d + 9) 110 1234 [(4, .int (nI i)), (0, .ref (X.1 28)), (1, .ref (X.1 0)), (2, .ref (X.1 8)), (3, .ref (X.1 27))] [] h Q := by
  refine x_run 2 (pc' := 23) (lv' := [(4, .int (nI i + (5))), (0, .ref (X.1 28)), (1, .ref (X.1 0)), (2, .ref (X.1 8)), (3, .ref (X.1 27))]) (st' := []) rfl ?_
  rw [show nI i + 5 = nI (i + 5) from nI_add i 5]
  exact kk
theorem l_law : ∀ (m i : Nat) (X : xX) (P : pP) (z : zZ) (h : mm_H), Rep (17 * m) (2040 * m) X P P z h → Inv m P → X.2.1 = 0 → X.2.2.1 ≤ 2560 → i ≤ 2560 → X.2.2.1 < i + 5 * m + 5 → Wx (d + 9) 110 23 [(4, .int (nI i)), (0, .ref (X.1 28)), (1, .ref (X.1 0)), (2, .ref (X.1 8)), (3, .ref (X.1 27))] [] h lwQ := by
  intro m
  induction m with
  | zero =>
    intro i X P z h R hI h0 hL hi5 hm
    refine x_run 2 (pc' := 26) (lv' := [(4, .int (nI i)), (0, .ref (X.1 28)), (1, .ref (X.1 0)), (2, .ref (X.1 8)), (3, .ref (X.1 27))]) (st' := [.ref (X.1 28), .int (nI i)]) rfl ?_
    refine x_alen5 rfl R.c28 ?_
    refine x_run 2 (pc' := 29) (lv' := [(4, .int (nI i)), (0, .ref (X.1 28)), (1, .ref (X.1 0)), (2, .ref (X.1 8)), (3, .ref (X.1 27))]) (st' := [.int ((nI X.2.2.1) - 5), .int (nI i)]) rfl ?_
    refine x_if (c := (nI X.2.2.1) - 5 < nI i) (t := 1240) rfl rfl (fun c1 => ?_) (fun c1 => ?_)
    · refine x_run 1 (pc' := 1241) (lv' := [(4, .int (nI i)), (0, .ref (X.1 28)), (1, .ref (X.1 0)), (2, .ref (X.1 8)), (3, .ref (X.1 27))]) (st' := [.int (1)]) rfl ?_
      exact x_ret (v := some (.int (1))) rfl rfl rfl rfl
    · exact absurd ((len5 hL hi5).mpr (by omega)) c1
  | succ m ih =>
    intro i X P z h R hI h0 hL hi5 hm
    refine x_run 2 (pc' := 26) (lv' := [(4, .int (nI i)), (0, .ref (X.1 28)), (1, .ref (X.1 0)), (2, .ref (X.1 8)), (3, .ref (X.1 27))]) (st' := [.ref (X.1 28), .int (nI i)]) rfl ?_
    refine x_alen5 rfl R.c28 ?_
    refine x_run 2 (pc' := 29) (lv' := [(4, .int (nI i)), (0, .ref (X.1 28)), (1, .ref (X.1 0)), (2, .ref (X.1 8)), (3, .ref (X.1 27))]) (st' := [.int ((nI X.2.2.1) - 5), .int (nI i)]) rfl ?_
    refine x_if (c := (nI X.2.2.1) - 5 < nI i) (t := 1240) rfl rfl (fun c1 => ?_) (fun c1 => ?_)
    · refine x_run 1 (pc' := 1241) (lv' := [(4, .int (nI i)), (0, .ref (X.1 28)), (1, .ref (X.1 0)), (2, .ref (X.1 8)), (3, .ref (X.1 27))]) (st' := [.int (1)]) rfl ?_
      exact x_ret (v := some (.int (1))) rfl rfl rfl rfl
    · refine x_run 2 (pc' := 35) (lv' := [(4, .int (nI i)), (0, .ref (X.1 28)), (1, .ref (X.1 0)), (2, .ref (X.1 8)), (3, .ref (X.1 27))]) (st' := [.int (nI i), .ref (X.1 28)]) rfl ?_
      have hl : i + 5 ≤ X.2.2.1 := by have := mt (len5 hL hi5).mpr c1; omega
      refine x_sald (j := i) rfl R.c28 (mm_idx_nI (by omega) (by omega)) ?_
      refine x_run 2 (pc' := 39) (lv' := [(4, .int (nI i)), (0, .ref (X.1 28)), (1, .ref (X.1 0)), (2, .ref (X.1 8)), (3, .ref (X.1 27))]) (st' := [.int ((X.2.2.2 i) &&& 31)]) rfl ?_
      rcases sw17 (X.2.2.2 i &&& 31) with e | e | e | e | e | e | e | e | e | e | e | e | e | e | e | e | e | e
      · rw [e]
        refine x_step (pc' := 120) (lv' := [(4, .int (nI i)), (0, .ref (X.1 28)), (1, .ref (X.1 0)), (2, .ref (X.1 8)), (3, .ref (X.1 27))]) (st' := []) (h' := h) rfl rfl ?_
        refine x_lv (a := [(4, .int (nI i)), (0, .ref (X.1 28)), (1, .ref (X.1 0)), (2, .ref (X.1 8)), (3, .ref (X.1 27))]) rfl rfl ⟨rfl, rfl, rfl, rfl, rfl, trivial⟩ ?_
        exact s_claim (u := 17 * m) (v := 2040 * m) (R.less (by omega) (by omega)) hI h0 hl hL (fun X' P' z h R hI eX eT => s_next (ih (i + 5) X' P' z h R hI (by rw [eX]; exact h0) (by rw [eX]; exact hL) (by omega) (by rw [eX]; omega)))
      · rw [e]
        refine x_step (pc' := 220) (lv' := [(4, .int (nI i)), (0, .ref (X.1 28)), (1, .ref (X.1 0)), (2, .ref (X.1 8)), (3, .ref (X.1 27))]) (st' := []) (h' := h) rfl rfl ?_
        refine x_lv (a := [(4, .int (nI i)), (0, .ref (X.1 28)), (1, .ref (X.1 0)), (2, .ref (X.1 8)), (3, .ref (X.1 27))]) rfl rfl ⟨rfl, rfl, rfl, rfl, rfl, trivial⟩ ?_
        exact s_owes (u := 17 * m) (v := 2040 * m) (R.less (by omega) (by omega)) hI h0 hl hL (fun X' P' z h R hI eX eT => s_next (ih (i + 5) X' P' z h R hI (by rw [eX]; exact h0) (by rw [eX]; exact hL) (by omega) (by rw [eX]; omega)))
      · rw [e]
        refine x_step (pc' := 319) (lv' := [(4, .int (nI i)), (0, .ref (X.1 28)), (1, .ref (X.1 0)), (2, .ref (X.1 8)), (3, .ref (X.1 27))]) (st' := []) (h' := h) rfl rfl ?_
        refine x_lv (a := [(4, .int (nI i)), (0, .ref (X.1 28)), (1, .ref (X.1 0)), (2, .ref (X.1 8)), (3, .ref (X.1 27))]) rfl rfl ⟨rfl, rfl, rfl, rfl, rfl, trivial⟩ ?_
        exact s_asset (u := 17 * m) (v := 2040 * m) (R.less (by omega) (by omega)) hI h0 hl hL (fun X' P' z h R hI eX eT => s_next (ih (i + 5) X' P' z h R hI (by rw [eX]; exact h0) (by rw [eX]; exact hL) (by omega) (by rw [eX]; omega)))
      · rw [e]
        refine x_step (pc' := 363) (lv' := [(4, .int (nI i)), (0, .ref (X.1 28)), (1, .ref (X.1 0)), (2, .ref (X.1 8)), (3, .ref (X.1 27))]) (st' := []) (h' := h) rfl rfl ?_
        refine x_lv (a := [(4, .int (nI i)), (0, .ref (X.1 28)), (1, .ref (X.1 0)), (2, .ref (X.1 8)), (3, .ref (X.1 27))]) rfl rfl ⟨rfl, rfl, rfl, rfl, rfl, trivial⟩ ?_
        exact s_sec (u := 17 * m) (v := 2040 * m) (R.less (by omega) (by omega)) hI h0 hl hL (fun X' P' z h R hI eX eT => s_next (ih (i + 5) X' P' z h R hI (by rw [eX]; exact h0) (by rw [eX]; exact hL) (by omega) (by rw [eX]; omega)))
      · rw [e]
        refine x_step (pc' := 475) (lv' := [(4, .int (nI i)), (0, .ref (X.1 28)), (1, .ref (X.1 0)), (2, .ref (X.1 8)), (3, .ref (X.1 27))]) (st' := []) (h' := h) rfl rfl ?_
        refine x_lv (a := [(4, .int (nI i)), (0, .ref (X.1 28)), (1, .ref (X.1 0)), (2, .ref (X.1 8)), (3, .ref (X.1 27))]) rfl rfl ⟨rfl, rfl, rfl, rfl, rfl, trivial⟩ ?_
        exact s_real (u := 17 * m) (v := 2040 * m) (R.less (by omega) (by omega)) hI h0 hl hL (fun X' P' z h R hI eX eT => s_next (ih (i + 5) X' P' z h R hI (by rw [eX]; exact h0) (by rw [eX]; exact hL) (by omega) (by rw [eX]; omega)))
      · rw [e]
        refine x_step (pc' := 574) (lv' := [(4, .int (nI i)), (0, .ref (X.1 28)), (1, .ref (X.1 0)), (2, .ref (X.1 8)), (3, .ref (X.1 27))]) (st' := []) (h' := h) rfl rfl ?_
        refine x_lv (a := [(4, .int (nI i)), (0, .ref (X.1 28)), (1, .ref (X.1 0)), (2, .ref (X.1 8)), (3, .ref (X.1 27))]) rfl rfl ⟨rfl, rfl, rfl, rfl, rfl, trivial⟩ ?_
        exact s_contest (u := 17 * m) (v := 2040 * m) (R.less (by omega) (by omega)) hI h0 hl hL (fun X' P' z h R hI eX eT => s_next (ih (i + 5) X' P' z h R hI (by rw [eX]; exact h0) (by rw [eX]; exact hL) (by omega) (by rw [eX]; omega)))
      · rw [e]
        refine x_step (pc' := 610) (lv' := [(4, .int (nI i)), (0, .ref (X.1 28)), (1, .ref (X.1 0)), (2, .ref (X.1 8)), (3, .ref (X.1 27))]) (st' := []) (h' := h) rfl rfl ?_
        refine x_lv (a := [(4, .int (nI i)), (0, .ref (X.1 28)), (1, .ref (X.1 0)), (2, .ref (X.1 8)), (3, .ref (X.1 27))]) rfl rfl ⟨rfl, rfl, rfl, rfl, rfl, trivial⟩ ?_
        exact s_settle (u := 17 * m) (v := 2040 * m) (R.less (by omega) (by omega)) hI h0 hl hL (fun X' P' z h R hI eX eT => s_next (ih (i + 5) X' P' z h R hI (by rw [eX]; exact h0) (by rw [eX]; exact hL) (by omega) (by rw [eX]; omega)))
      · rw [e]
        refine x_step (pc' := 709) (lv' := [(4, .int (nI i)), (0, .ref (X.1 28)), (1, .ref (X.1 0)), (2, .ref (X.1 8)), (3, .ref (X.1 27))]) (st' := []) (h' := h) rfl rfl ?_
        refine x_lv (a := [(4, .int (nI i)), (0, .ref (X.1 28)), (1, .ref (X.1 0)), (2, .ref (X.1 8)), (3, .ref (X.1 27))]) rfl rfl ⟨rfl, rfl, rfl, rfl, rfl, trivial⟩ ?_
        exact s_cost (u := 17 * m) (v := 2040 * m) (R.less (by omega) (by omega)) hI h0 hl hL (fun X' P' z h R hI eX eT => s_next (ih (i + 5) X' P' z h R hI (by rw [eX]; exact h0) (by rw [eX]; exact hL) (by omega) (by rw [eX]; omega)))
      · rw [e]
        refine x_step (pc' := 796) (lv' := [(4, .int (nI i)), (0, .ref (X.1 28)), (1, .ref (X.1 0)), (2, .ref (X.1 8)), (3, .ref (X.1 27))]) (st' := []) (h' := h) rfl rfl ?_
        refine x_lv (a := [(4, .int (nI i)), (0, .ref (X.1 28)), (1, .ref (X.1 0)), (2, .ref (X.1 8)), (3, .ref (X.1 27))]) rfl rfl ⟨rfl, rfl, rfl, rfl, rfl, trivial⟩ ?_
        exact s_div (u := 17 * m) (v := 2040 * m) (R.less (by omega) (by omega)) hI h0 hl hL (fun X' P' z h R hI eX eT => s_next (ih (i + 5) X' P' z h R hI (by rw [eX]; exact h0) (by rw [eX]; exact hL) (by omega) (by rw [eX]; omega)))
      · rw [e]
        refine x_step (pc' := 863) (lv' := [(4, .int (nI i)), (0, .ref (X.1 28)), (1, .ref (X.1 0)), (2, .ref (X.1 8)), (3, .ref (X.1 27))]) (st' := []) (h' := h) rfl rfl ?_
        refine x_lv (a := [(4, .int (nI i)), (0, .ref (X.1 28)), (1, .ref (X.1 0)), (2, .ref (X.1 8)), (3, .ref (X.1 27))]) rfl rfl ⟨rfl, rfl, rfl, rfl, rfl, trivial⟩ ?_
        exact s_greatest (u := 17 * m) (v := 2040 * m) (R.less (by omega) (by omega)) hI h0 hl hL (fun X' P' z h R hI eX eT => s_next (ih (i + 5) X' P' z h R hI (by rw [eX]; exact h0) (by rw [eX]; exact hL) (by omega) (by rw [eX]; omega)))
      · rw [e]
        refine x_step (pc' := 919) (lv' := [(4, .int (nI i)), (0, .ref (X.1 28)), (1, .ref (X.1 0)), (2, .ref (X.1 8)), (3, .ref (X.1 27))]) (st' := []) (h' := h) rfl rfl ?_
        refine x_lv (a := [(4, .int (nI i)), (0, .ref (X.1 28)), (1, .ref (X.1 0)), (2, .ref (X.1 8)), (3, .ref (X.1 27))]) rfl rfl ⟨rfl, rfl, rfl, rfl, rfl, trivial⟩ ?_
        exact s_catch (u := 17 * m) (v := 2040 * m) (R.less (by omega) (by omega)) hI h0 hl hL (fun X' P' z h R hI eX eT => s_next (ih (i + 5) X' P' z h R hI (by rw [eX]; exact h0) (by rw [eX]; exact hL) (by omega) (by rw [eX]; omega)))
      · rw [e]
        refine x_step (pc' := 962) (lv' := [(4, .int (nI i)), (0, .ref (X.1 28)), (1, .ref (X.1 0)), (2, .ref (X.1 8)), (3, .ref (X.1 27))]) (st' := []) (h' := h) rfl rfl ?_
        refine x_lv (a := [(4, .int (nI i)), (0, .ref (X.1 28)), (1, .ref (X.1 0)), (2, .ref (X.1 8)), (3, .ref (X.1 27))]) rfl rfl ⟨rfl, rfl, rfl, rfl, rfl, trivial⟩ ?_
        exact s_end (u := 17 * m) (v := 2040 * m) (R.less (by omega) (by omega)) hI h0 hl hL (fun X' P' z h R hI eX eT => s_next (ih (i + 5) X' P' z h R hI (by rw [eX]; exact h0) (by rw [eX]; exact hL) (by omega) (by rw [eX]; omega)))
      · rw [e]
        refine x_step (pc' := 1005) (lv' := [(4, .int (nI i)), (0, .ref (X.1 28)), (1, .ref (X.1 0)), (2, .ref (X.1 8)), (3, .ref (X.1 27))]) (st' := []) (h' := h) rfl rfl ?_
        refine x_lv (a := [(4, .int (nI i)), (0, .ref (X.1 28)), (1, .ref (X.1 0)), (2, .ref (X.1 8)), (3, .ref (X.1 27))]) rfl rfl ⟨rfl, rfl, rfl, rfl, rfl, trivial⟩ ?_
        exact s_told (u := 17 * m) (v := 2040 * m) (R.less (by omega) (by omega)) hI h0 hl hL (fun X' P' z h R hI eX eT => s_next (ih (i + 5) X' P' z h R hI (by rw [eX]; exact h0) (by rw [eX]; exact hL) (by omega) (by rw [eX]; omega)))
      · rw [e]
        refine x_step (pc' := 1072) (lv' := [(4, .int (nI i)), (0, .ref (X.1 28)), (1, .ref (X.1 0)), (2, .ref (X.1 8)), (3, .ref (X.1 27))]) (st' := []) (h' := h) rfl rfl ?_
        refine x_lv (a := [(4, .int (nI i)), (0, .ref (X.1 28)), (1, .ref (X.1 0)), (2, .ref (X.1 8)), (3, .ref (X.1 27))]) rfl rfl ⟨rfl, rfl, rfl, rfl, rfl, trivial⟩ ?_
        exact s_percentage (u := 17 * m) (v := 2040 * m) (R.less (by omega) (by omega)) hI h0 hl hL (fun X' P' z h R hI eX eT => s_next (ih (i + 5) X' P' z h R hI (by rw [eX]; exact h0) (by rw [eX]; exact hL) (by omega) (by rw [eX]; omega)))
      · rw [e]
        refine x_step (pc' := 1128) (lv' := [(4, .int (nI i)), (0, .ref (X.1 28)), (1, .ref (X.1 0)), (2, .ref (X.1 8)), (3, .ref (X.1 27))]) (st' := []) (h' := h) rfl rfl ?_
        refine x_lv (a := [(4, .int (nI i)), (0, .ref (X.1 28)), (1, .ref (X.1 0)), (2, .ref (X.1 8)), (3, .ref (X.1 27))]) rfl rfl ⟨rfl, rfl, rfl, rfl, rfl, trivial⟩ ?_
        exact s_sum (u := 17 * m) (v := 2040 * m) (R.less (by omega) (by omega)) hl hL (fun z h R => s_next (ih (i + 5) X P z h R hI.less h0 hL (by omega) (by omega)))
      · rw [e]
        refine x_step (pc' := 1154) (lv' := [(4, .int (nI i)), (0, .ref (X.1 28)), (1, .ref (X.1 0)), (2, .ref (X.1 8)), (3, .ref (X.1 27))]) (st' := []) (h' := h) rfl rfl ?_
        refine x_lv (a := [(4, .int (nI i)), (0, .ref (X.1 28)), (1, .ref (X.1 0)), (2, .ref (X.1 8)), (3, .ref (X.1 27))]) rfl rfl ⟨rfl, rfl, rfl, rfl, rfl, trivial⟩ ?_
        exact s_entries (u := 17 * m) (v := 2040 * m) (R.less (by omega) (by omega)) (fun z h R => s_next (ih (i + 5) X P z h R hI.less h0 hL (by omega) (by omega)))
      · rw [e]
        refine x_step (pc' := 1167) (lv' := [(4, .int (nI i)), (0, .ref (X.1 28)), (1, .ref (X.1 0)), (2, .ref (X.1 8)), (3, .ref (X.1 27))]) (st' := []) (h' := h) rfl rfl ?_
        refine x_lv (a := [(4, .int (nI i)), (0, .ref (X.1 28)), (1, .ref (X.1 0)), (2, .ref (X.1 8)), (3, .ref (X.1 27))]) rfl rfl ⟨rfl, rfl, rfl, rfl, rfl, trivial⟩ ?_
        exact s_entry (u := 17 * m) (v := 2040 * m) (R.less (by omega) (by omega)) hI h0 hl hL (fun X' P' z h R hI eX eT => s_next (ih (i + 5) X' P' z h R hI (by rw [eX]; exact h0) (by rw [eX]; exact hL) (by omega) (by rw [eX]; omega)))
      · refine x_swd (t := 1234) rfl e rfl ?_
        refine x_lv (a := [(4, .int (nI i)), (0, .ref (X.1 28)), (1, .ref (X.1 0)), (2, .ref (X.1 8)), (3, .ref (X.1 27))]) rfl rfl ⟨rfl, rfl, rfl, rfl, rfl, trivial⟩ ?_
        exact s_next (ih (i + 5) X P z h (R.less (by omega) (by omega)) hI.less h0 hL (by omega) (by omega))
end LAW2
