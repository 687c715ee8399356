section SHR
variable {u v d : Nat} {X : xX} {P M : pP} {z : zZ} {h : mm_H} {i j : Nat}
theorem l_bst {A B : Nat → Int64} (R : Rep u v X P M (zr z A B) h) (hw : X.2.1 = 2) {c l : Int64} {Q : mm_O × mm_H → Prop} : ∀ (m i : Nat) (o : Option Nat) (g : Int64), i + m = pn P → Wx d 34 52 [(6, .int (oI (p_bst B m i o g).1)), (4, .long c), (0, .ref (X.1 29)), (1, .ref (X.1 30)), (2, .long l)] [] h Q → Wx d 34 19 [(9, .int (nI i)), (7, .long (g)), (6, .int (oI o)), (4, .long (c)), (0, .ref (X.1 29)), (1, .ref (X.1 30)), (2, .long (l))] [] h Q := by
  intro m
  induction m with
  | zero =>
    intro i o g hm kk
    have n60 := R.n60
    refine x_run 2 (pc' := 22) (lv' := [(9, .int (nI i)), (7, .long (g)), (6, .int (oI o)), (4, .long (c)), (0, .ref (X.1 29)), (1, .ref (X.1 30)), (2, .long (l))]) (st' := [.ref (X.1 30), .int (nI i)]) rfl ?_
    refine x_alen1 rfl (R.c30 hw) ?_
    refine x_if (c := nI (pn P) ≤ nI i) (t := 52) rfl rfl (fun c1 => ?_) (fun c1 => ?_)
    · replace c1 := (nI_leI (by omega) (by omega)).mp c1
      refine x_lv (a := [(6, .int (oI o)), (4, .long (c)), (0, .ref (X.1 29)), (1, .ref (X.1 30)), (2, .long (l))]) rfl rfl ⟨rfl, rfl, rfl, rfl, rfl, trivial⟩ ?_
      exact kk
    · replace c1 := mt (nI_leI (by omega) (by omega)).mpr c1
      omega
  | succ m ih =>
    intro i o g hm kk
    have n60 := R.n60
    refine x_run 2 (pc' := 22) (lv' := [(9, .int (nI i)), (7, .long (g)), (6, .int (oI o)), (4, .long (c)), (0, .ref (X.1 29)), (1, .ref (X.1 30)), (2, .long (l))]) (st' := [.ref (X.1 30), .int (nI i)]) rfl ?_
    refine x_alen1 rfl (R.c30 hw) ?_
    refine x_if (c := nI (pn P) ≤ nI i) (t := 52) rfl rfl (fun c1 => ?_) (fun c1 => ?_)
    · replace c1 := (nI_leI (by omega) (by omega)).mp c1
      omega
    · replace c1 := mt (nI_leI (by omega) (by omega)).mpr c1
      refine x_run 2 (pc' := 29) (lv' := [(9, .int (nI i)), (7, .long (g)), (6, .int (oI o)), (4, .long (c)), (0, .ref (X.1 29)), (1, .ref (X.1 30)), (2, .long (l))]) (st' := [.int (nI i), .ref (X.1 30)]) rfl ?_
      refine x_lald (j := i) rfl (R.c30 hw) (mm_idx_nI (by omega) (by omega)) ?_
      refine x_run 1 (pc' := 32) (lv' := [(9, .int (nI i)), (7, .long (g)), (6, .int (oI o)), (4, .long (c)), (0, .ref (X.1 29)), (1, .ref (X.1 30)), (2, .long (l))]) (st' := [.long (g), .long (B i)]) rfl ?_
      refine x_lle (t := 46) rfl rfl rfl (fun c2 => ?_) (fun c2 => ?_)
      · refine x_run 1 (pc' := 49) (lv' := [(9, .int (nI i + 1)), (7, .long (g)), (6, .int (oI o)), (4, .long (c)), (0, .ref (X.1 29)), (1, .ref (X.1 30)), (2, .long (l))]) (st' := []) rfl ?_
        rw [nI_1]
        refine x_run 1 (pc' := 19) (lv' := [(9, .int (nI (i + 1))), (7, .long (g)), (6, .int (oI o)), (4, .long (c)), (0, .ref (X.1 29)), (1, .ref (X.1 30)), (2, .long (l))]) (st' := []) rfl ?_
        refine x_lv (a := [(9, .int (nI (i + 1))), (7, .long (g)), (6, .int (oI o)), (4, .long (c)), (0, .ref (X.1 29)), (1, .ref (X.1 30)), (2, .long (l))]) rfl rfl ⟨rfl, rfl, rfl, rfl, rfl, rfl, rfl, trivial⟩ ?_
        rw [show p_bst B (m + 1) i o g = p_bst B m (i + 1) o g from by rw [p_bst]; rw [if_pos (by assumption)]] at kk
        exact ih (i + 1) o _ (by omega) kk
      · refine x_run 4 (pc' := 43) (lv' := [(6, .int (nI i)), (9, .int (nI i)), (7, .long (g)), (4, .long (c)), (0, .ref (X.1 29)), (1, .ref (X.1 30)), (2, .long (l))]) (st' := [.int (nI i), .ref (X.1 30)]) rfl ?_
        refine x_lald (j := i) rfl (R.c30 hw) (mm_idx_nI (by omega) (by omega)) ?_
        refine x_run 2 (pc' := 49) (lv' := [(9, .int (nI i + 1)), (7, .long (B i)), (6, .int (nI i)), (4, .long (c)), (0, .ref (X.1 29)), (1, .ref (X.1 30)), (2, .long (l))]) (st' := []) rfl ?_
        rw [nI_1]
        refine x_run 1 (pc' := 19) (lv' := [(9, .int (nI (i + 1))), (7, .long (B i)), (6, .int (nI i)), (4, .long (c)), (0, .ref (X.1 29)), (1, .ref (X.1 30)), (2, .long (l))]) (st' := []) rfl ?_
        refine x_lv (a := [(9, .int (nI (i + 1))), (7, .long (B i)), (6, .int (nI i)), (4, .long (c)), (0, .ref (X.1 29)), (1, .ref (X.1 30)), (2, .long (l))]) rfl rfl ⟨rfl, rfl, rfl, rfl, rfl, rfl, rfl, trivial⟩ ?_
        rw [show p_bst B (m + 1) i o g = p_bst B m (i + 1) (some i) (B i) from by rw [p_bst]; rw [if_neg (by assumption)]] at kk
        exact ih (i + 1) (some i) _ (by omega) kk
theorem l_add (hw : X.2.1 = 2) {l : Int64} : ∀ (m : Nat) (c : Int64) (A B : Nat → Int64) (h : mm_H), Rep u v X P M (zr z A B) h → (l.toInt - c.toInt).toNat = m → Wx d 34 3 [(4, .long (c)), (0, .ref (X.1 29)), (1, .ref (X.1 30)), (2, .long (l))] [] h (fun r0 => r0.1 = .inl none ∧ Rep u v X P M (zr z (p_add (pn P) m A B).1 (p_add (pn P) m A B).2) r0.2) := by
  intro m
  induction m with
  | zero =>
    intro c A B h R hm
    have n60 := R.n60
    refine x_run 2 (pc' := 6) (lv' := [(4, .long (c)), (0, .ref (X.1 29)), (1, .ref (X.1 30)), (2, .long (l))]) (st' := [.long (l), .long (c)]) rfl ?_
    refine x_lge (t := 81) rfl rfl rfl (fun c1 => ?_) (fun c1 => ?_)
    · refine x_ret (v := none) rfl rfl rfl ⟨rfl, ?_⟩
      exact R
    · exact absurd (Int64.le_iff_toInt_le.mpr (by omega)) c1
  | succ m ih =>
    intro c A B h R hm
    have n60 := R.n60
    refine x_run 2 (pc' := 6) (lv' := [(4, .long (c)), (0, .ref (X.1 29)), (1, .ref (X.1 30)), (2, .long (l))]) (st' := [.long (l), .long (c)]) rfl ?_
    refine x_lge (t := 81) rfl rfl rfl (fun c1 => ?_) (fun c1 => ?_)
    · exact absurd c1 (dec_step hm).1
    · refine x_run 6 (pc' := 19) (lv' := [(9, .int (0)), (7, .long (0)), (6, .int (-1)), (4, .long (c)), (0, .ref (X.1 29)), (1, .ref (X.1 30)), (2, .long (l))]) (st' := []) rfl ?_
      refine x_lv (a := [(9, .int (0)), (7, .long (0)), (6, .int (oI none)), (4, .long (c)), (0, .ref (X.1 29)), (1, .ref (X.1 30)), (2, .long (l))]) rfl rfl ⟨rfl, rfl, rfl, rfl, rfl, rfl, rfl, trivial⟩ ?_
      refine l_bst R hw (pn P) 0 none 0 (by omega) ?_
      cases hb : (p_bst B (pn P) 0 none 0).1 with
      | none =>
        refine x_run 2 (pc' := 55) (lv' := [(6, .int (-1)), (4, .long (c)), (0, .ref (X.1 29)), (1, .ref (X.1 30)), (2, .long (l))]) (st' := [.int (-1), .int (-1)]) rfl ?_
        refine x_if (c := ¬ -1 = -1) (t := 59) rfl rfl (fun c2 => ?_) (fun c2 => ?_)
        · exact absurd rfl c2
        · refine x_ret (v := none) rfl rfl rfl ⟨rfl, ?_⟩
          rw [show p_add (pn P) (m + 1) A B = (A, B) from by rw [p_add, hb]]
          exact R
      | some k =>
        have hk := p_bst_lt B _ _ _ _ _ _ (Nat.zero_add _) (by intro k e; cases e) hb
        refine x_run 2 (pc' := 55) (lv' := [(6, .int (nI k)), (4, .long (c)), (0, .ref (X.1 29)), (1, .ref (X.1 30)), (2, .long (l))]) (st' := [.int (-1), .int (nI k)]) rfl ?_
        refine x_if (c := ¬ nI k = -1) (t := 59) rfl rfl (fun c3 => ?_) (fun c3 => ?_)
        · refine x_run 3 (pc' := 63) (lv' := [(6, .int (nI k)), (4, .long (c)), (0, .ref (X.1 29)), (1, .ref (X.1 30)), (2, .long (l))]) (st' := [.int (nI k), .ref (X.1 29), .int (nI k), .ref (X.1 29)]) rfl ?_
          refine x_lald (j := k) rfl (R.c29 hw) (mm_idx_nI (by omega) (by omega)) ?_
          refine x_run 2 (pc' := 66) (lv' := [(6, .int (nI k)), (4, .long (c)), (0, .ref (X.1 29)), (1, .ref (X.1 30)), (2, .long (l))]) (st' := [.long ((A k) + 1), .int (nI k), .ref (X.1 29)]) rfl ?_
          refine x_last (j := k) rfl (R.c29 hw) (mm_idx_nI (by omega) (by omega)) ?_
          refine gen_h (A := Rep u v X P M (((zr z A B).1, s2 (zr z A B).2 3 k ((A k) + 1)))) (R.uShare _ hw) (fun h R => ?_)
          rw [zr_A] at R
          refine x_run 3 (pc' := 71) (lv' := [(6, .int (nI k)), (4, .long (c)), (0, .ref (X.1 29)), (1, .ref (X.1 30)), (2, .long (l))]) (st' := [.long (0), .int (nI k), .ref (X.1 30)]) rfl ?_
          refine x_last (j := k) rfl (R.c30 hw) (mm_idx_nI (by omega) (by omega)) ?_
          refine gen_h (A := Rep u v X P M (((zr z (uF A k ((A k) + 1)) B).1, s2 (zr z (uF A k ((A k) + 1)) B).2 4 k (0)))) (R.uRem _ hw) (fun h R => ?_)
          rw [zr_B] at R
          refine x_run 5 (pc' := 3) (lv' := [(4, .long (c + 1)), (6, .int (nI k)), (0, .ref (X.1 29)), (1, .ref (X.1 30)), (2, .long (l))]) (st' := []) rfl ?_
          refine x_lv (a := [(4, .long (c + 1)), (0, .ref (X.1 29)), (1, .ref (X.1 30)), (2, .long (l))]) rfl rfl ⟨rfl, rfl, rfl, rfl, trivial⟩ ?_
          rw [show p_add (pn P) (m + 1) A B = p_add (pn P) m (uF A k (A k + 1)) (uF B k 0) from by rw [p_add, hb]]
          exact ih _ _ _ _ R (dec_step hm).2
        · exact absurd (Classical.not_not.mp c3) (nI_m1 (by omega))
theorem c_add {A B : Nat → Int64} (R : Rep u v X P M (zr z A B) h) (hw : X.2.1 = 2) (l : Int64) : Wx (d) 34 0 (lv_args 0 [.ref (X.1 29), .ref (X.1 30), .long (l)]) [] h (fun r0 => r0.1 = .inl none ∧ Rep u v X P M (zr z (p_add (pn P) l.toInt.toNat A B).1 (p_add (pn P) l.toInt.toNat A B).2) r0.2) := by
  show Wx _ _ 0 [(0, .ref (X.1 29)), (1, .ref (X.1 30)), (2, .long (l))] [] h _
  refine x_run 2 (pc' := 3) (lv' := [(4, .long (0)), (0, .ref (X.1 29)), (1, .ref (X.1 30)), (2, .long (l))]) (st' := []) rfl ?_
  refine x_lv (a := [(4, .long (0)), (0, .ref (X.1 29)), (1, .ref (X.1 30)), (2, .long (l))]) rfl rfl ⟨rfl, rfl, rfl, rfl, trivial⟩ ?_
  exact l_add hw _ 0 A B h R (by rw [show (0 : Int64).toInt = 0 from by decide, Int.sub_zero])
theorem l_sh (hw : X.2.1 = 2) {r : Nat} (hr : r < 8) {all pot : Int64} {Q : mm_O × mm_H → Prop} : ∀ (m i : Nat) (l : Int64) (A B : Nat → Int64) (h : mm_H), Rep u v X P M (zr z A B) h → i + m = pn P → (∀ h, Rep u v X P M (zr z (p_sh P r all pot m i A B l).1.1 (p_sh P r all pot m i A B l).1.2) h → Wx (d + 3) 33 107 [(6, .long (p_sh P r all pot m i A B l).2), (4, .long pot), (0, .ref (X.1 0)), (1, .int (nI r)), (2, .long all), (8, .ref (X.1 29)), (9, .ref (X.1 30))] [] h Q) → Wx (d + 3) 33 29 [(10, .int (nI i)), (6, .long (l)), (4, .long (pot)), (0, .ref (X.1 0)), (1, .int (nI r)), (2, .long (all)), (8, .ref (X.1 29)), (9, .ref (X.1 30))] [] h Q := by
  intro m
  induction m with
  | zero =>
    intro i l A B h R hm kk
    have n60 := R.n60
    refine x_run 2 (pc' := 32) (lv' := [(10, .int (nI i)), (6, .long (l)), (4, .long (pot)), (0, .ref (X.1 0)), (1, .int (nI r)), (2, .long (all)), (8, .ref (X.1 29)), (9, .ref (X.1 30))]) (st' := [.ref (X.1 0), .int (nI i)]) rfl ?_
    refine x_get (v := .int (nI (pn P))) rfl rfl R.c0 rfl ?_
    refine x_if (c := nI (pn P) ≤ nI i) (t := 107) rfl rfl (fun c1 => ?_) (fun c1 => ?_)
    · replace c1 := (nI_leI (by omega) (by omega)).mp c1
      refine x_lv (a := [(6, .long (l)), (4, .long (pot)), (0, .ref (X.1 0)), (1, .int (nI r)), (2, .long (all)), (8, .ref (X.1 29)), (9, .ref (X.1 30))]) rfl rfl ⟨rfl, rfl, rfl, rfl, rfl, rfl, rfl, trivial⟩ ?_
      exact kk h R
    · replace c1 := mt (nI_leI (by omega) (by omega)).mpr c1
      omega
  | succ m ih =>
    intro i l A B h R hm kk
    have n60 := R.n60
    have hi : i < pn P := by omega
    have r8 := R.wP.rk hi
    refine x_run 2 (pc' := 32) (lv' := [(10, .int (nI i)), (6, .long (l)), (4, .long (pot)), (0, .ref (X.1 0)), (1, .int (nI r)), (2, .long (all)), (8, .ref (X.1 29)), (9, .ref (X.1 30))]) (st' := [.ref (X.1 0), .int (nI i)]) rfl ?_
    refine x_get (v := .int (nI (pn P))) rfl rfl R.c0 rfl ?_
    refine x_if (c := nI (pn P) ≤ nI i) (t := 107) rfl rfl (fun c1 => ?_) (fun c1 => ?_)
    · replace c1 := (nI_leI (by omega) (by omega)).mp c1
      omega
    · replace c1 := mt (nI_leI (by omega) (by omega)).mpr c1
      refine x_run 1 (pc' := 39) (lv' := [(10, .int (nI i)), (6, .long (l)), (4, .long (pot)), (0, .ref (X.1 0)), (1, .int (nI r)), (2, .long (all)), (8, .ref (X.1 29)), (9, .ref (X.1 30))]) (st' := [.ref (X.1 0)]) rfl ?_
      refine x_get (v := .ref (X.1 1)) rfl rfl R.c0 rfl ?_
      refine x_run 1 (pc' := 44) (lv' := [(10, .int (nI i)), (6, .long (l)), (4, .long (pot)), (0, .ref (X.1 0)), (1, .int (nI r)), (2, .long (all)), (8, .ref (X.1 29)), (9, .ref (X.1 30))]) (st' := [.int (nI i), .ref (X.1 1)]) rfl ?_
      refine x_aald3 (j := i) rfl R.c1 (mm_idx_nI (by omega) (by omega)) ?_
      rw [if_pos hi]
      refine x_get (v := .int (nI (pN P 0 i))) rfl rfl (R.cC hi) rfl ?_
      refine x_run 1 (pc' := 49) (lv' := [(10, .int (nI i)), (6, .long (l)), (4, .long (pot)), (0, .ref (X.1 0)), (1, .int (nI r)), (2, .long (all)), (8, .ref (X.1 29)), (9, .ref (X.1 30))]) (st' := [.int (nI r), .int (nI (pN P 0 i))]) rfl ?_
      refine x_if (c := ¬ nI (pN P 0 i) = nI r) (t := 101) rfl rfl (fun c2 => ?_) (fun c2 => ?_)
      · replace c2 := mt (nI_eq (by omega) (by omega)).mpr c2
        refine x_run 1 (pc' := 104) (lv' := [(10, .int (nI i + 1)), (6, .long (l)), (4, .long (pot)), (0, .ref (X.1 0)), (1, .int (nI r)), (2, .long (all)), (8, .ref (X.1 29)), (9, .ref (X.1 30))]) (st' := []) rfl ?_
        rw [nI_1]
        refine x_run 1 (pc' := 29) (lv' := [(10, .int (nI (i + 1))), (6, .long (l)), (4, .long (pot)), (0, .ref (X.1 0)), (1, .int (nI r)), (2, .long (all)), (8, .ref (X.1 29)), (9, .ref (X.1 30))]) (st' := []) rfl ?_
        refine x_lv (a := [(10, .int (nI (i + 1))), (6, .long (l)), (4, .long (pot)), (0, .ref (X.1 0)), (1, .int (nI r)), (2, .long (all)), (8, .ref (X.1 29)), (9, .ref (X.1 30))]) rfl rfl ⟨rfl, rfl, rfl, rfl, rfl, rfl, rfl, rfl, trivial⟩ ?_
        rw [show p_sh P r all pot (m + 1) i A B l = p_sh P r all pot m (i + 1) A B l from by rw [p_sh]; rw [if_neg (by omega)]] at kk
        exact ih (i + 1) _ _ _ _ R (by omega) kk
      · replace c2 := (nI_eq (by omega) (by omega)).mp (Classical.not_not.mp c2)
        refine x_run 2 (pc' := 54) (lv' := [(10, .int (nI i)), (6, .long (l)), (4, .long (pot)), (0, .ref (X.1 0)), (1, .int (nI r)), (2, .long (all)), (8, .ref (X.1 29)), (9, .ref (X.1 30))]) (st' := [.long (0), .long (all)]) rfl ?_
        refine x_lle (t := 101) rfl rfl rfl (fun c3 => ?_) (fun c3 => ?_)
        · refine x_run 1 (pc' := 104) (lv' := [(10, .int (nI i + 1)), (6, .long (l)), (4, .long (pot)), (0, .ref (X.1 0)), (1, .int (nI r)), (2, .long (all)), (8, .ref (X.1 29)), (9, .ref (X.1 30))]) (st' := []) rfl ?_
          rw [nI_1]
          refine x_run 1 (pc' := 29) (lv' := [(10, .int (nI (i + 1))), (6, .long (l)), (4, .long (pot)), (0, .ref (X.1 0)), (1, .int (nI r)), (2, .long (all)), (8, .ref (X.1 29)), (9, .ref (X.1 30))]) (st' := []) rfl ?_
          refine x_lv (a := [(10, .int (nI (i + 1))), (6, .long (l)), (4, .long (pot)), (0, .ref (X.1 0)), (1, .int (nI r)), (2, .long (all)), (8, .ref (X.1 29)), (9, .ref (X.1 30))]) rfl rfl ⟨rfl, rfl, rfl, rfl, rfl, rfl, rfl, rfl, trivial⟩ ?_
          rw [show p_sh P r all pot (m + 1) i A B l = p_sh P r all pot m (i + 1) A B l from by rw [p_sh]; rw [if_pos (by omega), if_pos (by assumption)]] at kk
          exact ih (i + 1) _ _ _ _ R (by omega) kk
        · refine x_run 1 (pc' := 59) (lv' := [(10, .int (nI i)), (6, .long (l)), (4, .long (pot)), (0, .ref (X.1 0)), (1, .int (nI r)), (2, .long (all)), (8, .ref (X.1 29)), (9, .ref (X.1 30))]) (st' := [.ref (X.1 0)]) rfl ?_
          refine x_get (v := .ref (X.1 1)) rfl rfl R.c0 rfl ?_
          refine x_run 1 (pc' := 64) (lv' := [(10, .int (nI i)), (6, .long (l)), (4, .long (pot)), (0, .ref (X.1 0)), (1, .int (nI r)), (2, .long (all)), (8, .ref (X.1 29)), (9, .ref (X.1 30))]) (st' := [.int (nI i), .ref (X.1 1)]) rfl ?_
          refine x_aald3 (j := i) rfl R.c1 (mm_idx_nI (by omega) (by omega)) ?_
          rw [if_pos hi]
          refine x_rd (v := .long (p_unpaid P i)) (k' := 45) (as := [.ref (X.1 (100 + i))]) (rest := []) (x_isV (np := 0) rfl rfl rfl (R.cC hi) rfl) (c_unpaid R hi) ?_
          refine x_run 7 (pc' := 80) (lv' := [(11, .long ((p_unpaid P i) * pot)), (10, .int (nI i)), (6, .long (l)), (4, .long (pot)), (0, .ref (X.1 0)), (1, .int (nI r)), (2, .long (all)), (8, .ref (X.1 29)), (9, .ref (X.1 30))]) (st' := [.long (all), .long ((p_unpaid P i) * pot), .int (nI i), .ref (X.1 29)]) rfl ?_
          refine x_ldiv rfl (by first | assumption | exact nz_of (by assumption)) ?_
          refine x_last (j := i) rfl (R.c29 hw) (mm_idx_nI (by omega) (by omega)) ?_
          refine gen_h (A := Rep u v X P M (((zr z A B).1, s2 (zr z A B).2 3 i (((p_unpaid P i) * pot) / all)))) (R.uShare _ hw) (fun h R => ?_)
          rw [zr_A] at R
          refine x_run 4 (pc' := 89) (lv' := [(11, .long ((p_unpaid P i) * pot)), (10, .int (nI i)), (6, .long (l)), (4, .long (pot)), (0, .ref (X.1 0)), (1, .int (nI r)), (2, .long (all)), (8, .ref (X.1 29)), (9, .ref (X.1 30))]) (st' := [.long (all), .long ((p_unpaid P i) * pot), .int (nI i), .ref (X.1 30)]) rfl ?_
          refine x_lrem rfl (by first | assumption | exact nz_of (by assumption)) ?_
          refine x_last (j := i) rfl (R.c30 hw) (mm_idx_nI (by omega) (by omega)) ?_
          refine gen_h (A := Rep u v X P M (((zr z (uF A i (((p_unpaid P i) * pot) / all)) B).1, s2 (zr z (uF A i (((p_unpaid P i) * pot) / all)) B).2 4 i (((p_unpaid P i) * pot) - ((p_unpaid P i) * pot) / all * all)))) (R.uRem _ hw) (fun h R => ?_)
          rw [zr_B] at R
          refine x_run 3 (pc' := 97) (lv' := [(11, .long ((p_unpaid P i) * pot)), (10, .int (nI i)), (6, .long (l)), (4, .long (pot)), (0, .ref (X.1 0)), (1, .int (nI r)), (2, .long (all)), (8, .ref (X.1 29)), (9, .ref (X.1 30))]) (st' := [.int (nI i), .ref (X.1 29), .long (l)]) rfl ?_
          refine x_lald (j := i) rfl (R.c29 hw) (mm_idx_nI (by omega) (by omega)) ?_
          refine x_run 3 (pc' := 104) (lv' := [(10, .int (nI i + 1)), (6, .long (l - ((uF A i (((p_unpaid P i) * pot) / all)) i))), (11, .long ((p_unpaid P i) * pot)), (4, .long (pot)), (0, .ref (X.1 0)), (1, .int (nI r)), (2, .long (all)), (8, .ref (X.1 29)), (9, .ref (X.1 30))]) (st' := []) rfl ?_
          rw [nI_1]
          refine x_run 1 (pc' := 29) (lv' := [(10, .int (nI (i + 1))), (6, .long (l - ((uF A i (((p_unpaid P i) * pot) / all)) i))), (11, .long ((p_unpaid P i) * pot)), (4, .long (pot)), (0, .ref (X.1 0)), (1, .int (nI r)), (2, .long (all)), (8, .ref (X.1 29)), (9, .ref (X.1 30))]) (st' := []) rfl ?_
          refine x_lv (a := [(10, .int (nI (i + 1))), (6, .long (l - ((uF A i (((p_unpaid P i) * pot) / all)) i))), (4, .long (pot)), (0, .ref (X.1 0)), (1, .int (nI r)), (2, .long (all)), (8, .ref (X.1 29)), (9, .ref (X.1 30))]) rfl rfl ⟨rfl, rfl, rfl, rfl, rfl, rfl, rfl, rfl, trivial⟩ ?_
          rw [show p_sh P r all pot (m + 1) i A B l = p_sh P r all pot m (i + 1) (uF A i (((p_unpaid P i) * pot) / all)) (uF B i (((p_unpaid P i) * pot) - ((p_unpaid P i) * pot) / all * all)) (l - ((uF A i (((p_unpaid P i) * pot) / all)) i)) from by rw [p_sh]; rw [if_pos (by omega), if_neg (by assumption)]] at kk
          exact ih (i + 1) _ _ _ _ R (by omega) kk
theorem l_payA (hw : X.2.1 = 2) {A B : Nat → Int64} {Q : mm_O × mm_H → Prop} : ∀ (m i : Nat) (P : pP) (h : mm_H), Rep u (v + m) X P M (zr z A B) h → i + m = pn P → (∀ h, Rep u v X (p_payA A m i P) M (zr z A B) h → Wx (d + 2) 33 150 [(0, .ref (X.1 0))] [] h Q) → Wx (d + 2) 33 119 [(10, .int (nI i)), (0, .ref (X.1 0)), (8, .ref (X.1 29))] [] h Q := by
  intro m
  induction m with
  | zero =>
    intro i P h R hm kk
    have n60 := R.n60
    refine x_run 2 (pc' := 122) (lv' := [(10, .int (nI i)), (0, .ref (X.1 0)), (8, .ref (X.1 29))]) (st' := [.ref (X.1 0), .int (nI i)]) rfl ?_
    refine x_get (v := .int (nI (pn P))) rfl rfl R.c0 rfl ?_
    refine x_if (c := nI (pn P) ≤ nI i) (t := 150) rfl rfl (fun c1 => ?_) (fun c1 => ?_)
    · replace c1 := (nI_leI (by omega) (by omega)).mp c1
      refine x_lv (a := [(0, .ref (X.1 0))]) rfl rfl ⟨rfl, trivial⟩ ?_
      exact kk h R
    · replace c1 := mt (nI_leI (by omega) (by omega)).mpr c1
      omega
  | succ m ih =>
    intro i P h R hm kk
    have R : Rep u (v + m + 1) X P M (zr z A B) h := R
    have n60 := R.n60
    have hi : i < pn P := by omega
    refine x_run 2 (pc' := 122) (lv' := [(10, .int (nI i)), (0, .ref (X.1 0)), (8, .ref (X.1 29))]) (st' := [.ref (X.1 0), .int (nI i)]) rfl ?_
    refine x_get (v := .int (nI (pn P))) rfl rfl R.c0 rfl ?_
    refine x_if (c := nI (pn P) ≤ nI i) (t := 150) rfl rfl (fun c1 => ?_) (fun c1 => ?_)
    · replace c1 := (nI_leI (by omega) (by omega)).mp c1
      omega
    · replace c1 := mt (nI_leI (by omega) (by omega)).mpr c1
      refine x_run 2 (pc' := 130) (lv' := [(10, .int (nI i)), (0, .ref (X.1 0)), (8, .ref (X.1 29))]) (st' := [.ref (X.1 0), .ref (X.1 0)]) rfl ?_
      refine x_get (v := .ref (X.1 1)) rfl rfl R.c0 rfl ?_
      refine x_run 1 (pc' := 135) (lv' := [(10, .int (nI i)), (0, .ref (X.1 0)), (8, .ref (X.1 29))]) (st' := [.int (nI i), .ref (X.1 1), .ref (X.1 0)]) rfl ?_
      refine x_aald3 (j := i) rfl R.c1 (mm_idx_nI (by omega) (by omega)) ?_
      rw [if_pos hi]
      refine x_run 2 (pc' := 140) (lv' := [(10, .int (nI i)), (0, .ref (X.1 0)), (8, .ref (X.1 29))]) (st' := [.int (nI i), .ref (X.1 29), .ref (X.1 (100 + i)), .ref (X.1 0)]) rfl ?_
      refine x_lald (j := i) rfl (R.c29 hw) (mm_idx_nI (by omega) (by omega)) ?_
      refine x_wr0 (A := Rep u (v + m) X (p_pay P i (A i)) M (zr z A B)) (k' := 35) (as := [.ref (X.1 0), .ref (X.1 (100 + i)), .long (A i)]) (rest := []) (x_isV (np := 2) rfl rfl rfl R.c0 rfl) (c_pay R hi _) (fun h R => ?_)
      refine x_run 1 (pc' := 147) (lv' := [(10, .int (nI i + 1)), (0, .ref (X.1 0)), (8, .ref (X.1 29))]) (st' := []) rfl ?_
      rw [nI_1]
      refine x_run 1 (pc' := 119) (lv' := [(10, .int (nI (i + 1))), (0, .ref (X.1 0)), (8, .ref (X.1 29))]) (st' := []) rfl ?_
      refine x_lv (a := [(10, .int (nI (i + 1))), (0, .ref (X.1 0)), (8, .ref (X.1 29))]) rfl rfl ⟨rfl, rfl, rfl, trivial⟩ ?_
      rw [show p_payA A (m + 1) i P = p_payA A m (i + 1) (p_pay P i (A i)) from rfl] at kk
      exact ih (i + 1) _ _ R (by show _ = pn P; omega) kk
theorem c_share2 (R : Rep u (v + 60) X P M (zr z (fun _ => 0) (fun _ => 0)) h) (hw : X.2.1 = 2) {r : Nat} (hr : r < 8) {all : Int64} : Wx (d + 3) 33 26 [(9, .ref (X.1 30)), (8, .ref (X.1 29)), (6, .long (pL P 7 0)), (4, .long (pL P 7 0)), (0, .ref (X.1 0)), (1, .int (nI r)), (2, .long (all))] [] h (fun r0 => r0.1 = .inl none ∧ Rep u v X (p_share P r all) M (zr z (p_shA P r all).1 (p_shA P r all).2) r0.2) := by
  have n60 := R.n60
  refine x_run 2 (pc' := 29) (lv' := [(10, .int (0)), (9, .ref (X.1 30)), (8, .ref (X.1 29)), (6, .long (pL P 7 0)), (4, .long (pL P 7 0)), (0, .ref (X.1 0)), (1, .int (nI r)), (2, .long (all))]) (st' := []) rfl ?_
  refine x_lv (a := [(10, .int (0)), (6, .long (pL P 7 0)), (4, .long (pL P 7 0)), (0, .ref (X.1 0)), (1, .int (nI r)), (2, .long (all)), (8, .ref (X.1 29)), (9, .ref (X.1 30))]) rfl rfl ⟨rfl, rfl, rfl, rfl, rfl, rfl, rfl, rfl, trivial⟩ ?_
  refine l_sh hw hr (pn P) 0 _ _ _ h R (by omega) (fun h R => ?_)
  replace R : Rep u (v + 60) X P M (zr z (p_sh0 P r all).1.1 (p_sh0 P r all).1.2) h := R
  refine x_run 3 (pc' := 113) (lv' := [(6, .long ((p_sh0 P r all).2)), (4, .long (pL P 7 0)), (0, .ref (X.1 0)), (1, .int (nI r)), (2, .long (all)), (8, .ref (X.1 29)), (9, .ref (X.1 30))]) (st' := [.long ((p_sh0 P r all).2), .ref (X.1 30), .ref (X.1 29)]) rfl ?_
  refine x_wr0 (A := Rep u (v + 60) X P M (zr z (p_shA P r all).1 (p_shA P r all).2)) (k' := 34) (as := [.ref (X.1 29), .ref (X.1 30), .long ((p_sh0 P r all).2)]) (rest := []) (x_isS (np := 3) rfl rfl rfl rfl rfl) (c_add R hw _) (fun h R => ?_)
  refine x_run 2 (pc' := 119) (lv' := [(10, .int (0)), (6, .long ((p_sh0 P r all).2)), (4, .long (pL P 7 0)), (0, .ref (X.1 0)), (1, .int (nI r)), (2, .long (all)), (8, .ref (X.1 29)), (9, .ref (X.1 30))]) (st' := []) rfl ?_
  refine x_lv (a := [(10, .int (0)), (0, .ref (X.1 0)), (8, .ref (X.1 29))]) rfl rfl ⟨rfl, rfl, rfl, trivial⟩ ?_
  refine l_payA (v := v) hw (pn P) 0 P h (R.less (Nat.le_refl _) (by omega)) (by omega) (fun h R => ?_)
  exact x_ret (v := none) rfl rfl rfl ⟨rfl, R⟩
end SHR
