section MOD8
variable {u v d : Nat} {X : xX} {P M : pP} {z : zZ} {h : mm_H} {i j : Nat}
theorem k_ranks {Q : mm_O × mm_H → Prop} : ∀ (m r : Nat) (M : pP) (h : mm_H) (L A B : Nat → Int64), Rep u (v + 60 * m) X P M (zm z L A B) h → r + m = 8 → Be r M → (∀ (h : mm_H) (L A B : Nat → Int64), Rep u v X P (p_ranks m r M) (zm z L A B) h → Wx (d + 3) 89 249 [(0, .ref (X.1 8))] [] h Q) → Wx (d + 3) 89 85 [(3, .int (nI r)), (0, .ref (X.1 8))] [] h Q := by
  intro m
  induction m with
  | zero =>
    intro r M h L A B R hm hE kk
    refine x_run 2 (pc' := 88) (lv' := [(3, .int (nI r)), (0, .ref (X.1 8))]) (st' := [.int (8), .int (nI r)]) rfl ?_
    refine x_if (c := nI 8 ≤ nI r) (t := 249) rfl rfl (fun c1 => ?_) (fun c1 => ?_)
    · replace c1 := (nI_leI (by omega) (by omega)).mp c1
      refine x_lv (a := [(0, .ref (X.1 8))]) rfl rfl ⟨rfl, trivial⟩ ?_
      exact kk h L A B R
    · replace c1 := mt (nI_leI (by omega) (by omega)).mpr c1
      omega
  | succ m ih =>
    intro r M h L A B R hm hE kk
    have R : Rep u (v + 60 * m + 60) X P M (zm z L A B) h := R
    have m60 := R.m60
    have hr : r < 8 := by omega
    refine x_run 2 (pc' := 88) (lv' := [(3, .int (nI r)), (0, .ref (X.1 8))]) (st' := [.int (8), .int (nI r)]) rfl ?_
    refine x_if (c := nI 8 ≤ nI r) (t := 249) rfl rfl (fun c1 => ?_) (fun c1 => ?_)
    · replace c1 := (nI_leI (by omega) (by omega)).mp c1
      omega
    · replace c1 := mt (nI_leI (by omega) (by omega)).mpr c1
      refine x_run 4 (pc' := 97) (lv' := [(6, .int (0)), (4, .long (0)), (3, .int (nI r)), (0, .ref (X.1 8))]) (st' := []) rfl ?_
      refine x_lv (a := [(6, .int (0)), (4, .long (0)), (3, .int (nI r)), (0, .ref (X.1 8))]) rfl rfl ⟨rfl, rfl, rfl, rfl, trivial⟩ ?_
      refine k_left hr (pn M) 0 0 L h R (by omega) (fun h R => ?_)
      obtain ⟨e2, eL, _⟩ := lf_eq (P := M) (r := r) (pn M) 0 L 0 (fun q _ hq e => left_eq (hE.1 q (by omega)))
      rw [e2]
      generalize (m_lf M r (pn M) 0 L 0).1 = L2 at *
      refine x_run 2 (pc' := 180) (lv' := [(4, .long (p_sumU M r (pn M) 0 0)), (3, .int (nI r)), (0, .ref (X.1 8))]) (st' := [.ref (X.1 8), .long (p_sumU M r (pn M) 0 0)]) rfl ?_
      refine x_get (v := .long (pL M 7 0)) rfl rfl R.c8 rfl ?_
      refine x_lle (t := 197) rfl rfl rfl (fun c2 => ?_) (fun c2 => ?_)
      · refine x_run 2 (pc' := 200) (lv' := [(6, .int (0)), (4, .long (p_sumU M r (pn M) 0 0)), (3, .int (nI r)), (0, .ref (X.1 8))]) (st' := []) rfl ?_
        refine x_lv (a := [(6, .int (0)), (3, .int (nI r)), (0, .ref (X.1 8))]) rfl rfl ⟨rfl, rfl, rfl, trivial⟩ ?_
        obtain ⟨eq, hE2⟩ := pays_eq hE m60 c2 (fun q hq e => eL q (by omega) (by omega) e)
        have er : p_rank M r = p_pays r (pn M) 0 M := if_pos c2
        refine k_payL (v := v + 60 * m) hr (pn M) 0 M h (R.less (Nat.le_refl _) (by omega)) (by omega) (fun h R => ?_)
        rw [eq, ← er] at R
        rw [← er] at hE2
        refine x_run 1 (pc' := 246) (lv' := [(3, .int (nI r + 1)), (0, .ref (X.1 8))]) (st' := []) rfl ?_
        rw [nI_1]
        refine x_run 1 (pc' := 85) (lv' := [(3, .int (nI (r + 1))), (0, .ref (X.1 8))]) (st' := []) rfl ?_
        refine x_lv (a := [(3, .int (nI (r + 1))), (0, .ref (X.1 8))]) rfl rfl ⟨rfl, rfl, trivial⟩ ?_
        exact ih (r + 1) _ _ _ _ _ R (by omega) hE2 kk
      · refine x_run 3 (pc' := 191) (lv' := [(4, .long (p_sumU M r (pn M) 0 0)), (3, .int (nI r)), (0, .ref (X.1 8))]) (st' := [.long (p_sumU M r (pn M) 0 0), .int (nI r), .ref (X.1 8)]) rfl ?_
        obtain ⟨k, hl, ok, eq, hE2⟩ := share_eq (A := A) (B := B) hE m60 c2 (fun q hq e => eL q (by omega) (by omega) e)
        have er : p_rank M r = p_share M r (p_sumU M r (pn M) 0 0) := if_neg c2
        have hall : ¬ p_sumU M r (pn M) 0 0 = 0 := fun e => c2 (by rw [e, le_i, z_i]; exact hE.2.1)
        refine x_wr0 (A := fun h => ∃ A2 B2 : Nat → Int64, Rep u (v + 60 * m) X P (p_rank M r) (zm z L2 A2 B2) h) (k' := 88) (as := [.ref (X.1 8), .int (nI r), .long (p_sumU M r (pn M) 0 0)]) (rest := []) (x_isV (np := 2) rfl rfl rfl R.c8 rfl) ((k_share (v := v + 60 * m) R hr hall hl ok).mono (fun r0 e => ⟨e.1, by obtain ⟨_, A2, B2, x⟩ := e; rw [eq, ← er] at x; exact ⟨A2, B2, x⟩⟩)) (fun h R => ?_)
        obtain ⟨A2, B2, R⟩ := R
        rw [← er] at hE2
        refine x_run 2 (pc' := 246) (lv' := [(3, .int (nI r + 1)), (4, .long (p_sumU M r (pn M) 0 0)), (0, .ref (X.1 8))]) (st' := []) rfl ?_
        rw [nI_1]
        refine x_run 1 (pc' := 85) (lv' := [(3, .int (nI (r + 1))), (4, .long (p_sumU M r (pn M) 0 0)), (0, .ref (X.1 8))]) (st' := []) rfl ?_
        refine x_lv (a := [(3, .int (nI (r + 1))), (0, .ref (X.1 8))]) rfl rfl ⟨rfl, rfl, trivial⟩ ?_
        exact ih (r + 1) _ _ _ _ _ R (by omega) hE2 kk
theorem k_end {t : Nat} (R : Rep u (v + 480 + 480 + 60) X P M z h) (hI : Inv t M) : Wx (d + 4) 89 0 (lv_args 0 [.ref (X.1 8)]) [] h (mQ u v X P z (mo (cd 6 99 99) (some (.long 0)) (o_end p_open M))) := by
  have m60 := R.m60
  have w0 := R.wM
  show Wx _ _ 0 [(0, .ref (X.1 8))] [] h _
  refine x_run 2 (pc' := 2) (lv' := [(0, .ref (X.1 8))]) (st' := [.ref (X.1 8), .ref (X.1 8)]) rfl ?_
  refine x_get (v := .int (pI M 4 0)) rfl rfl R.c8 rfl ?_
  refine x_if (c := ¬ pI M 4 0 = 0) (t := 15) rfl rfl (fun c1 => ?_) (fun c1 => ?_)
  · refine x_run 2 (pc' := 20) (lv' := [(0, .ref (X.1 8))]) (st' := [.int (1), .ref (X.1 8)]) rfl ?_
    refine x_put rfl rfl R.c8 rfl ?_
    refine gen_h (A := Rep u (v + 480 + 480 + 60) X P M ((1, z.2))) (R.mCode _) (fun h R => ?_)
    refine x_run 1 (pc' := 24) (lv' := [(0, .ref (X.1 8))]) (st' := [.ref (X.1 8)]) rfl ?_
    refine x_get (v := .int (1)) rfl rfl R.c8 rfl ?_
    refine x_if (c := nI 1 ≤ nI 0) (t := 32) rfl rfl (fun c2 => ?_) (fun c2 => ?_)
    · replace c2 := (nI_leI (by omega) (by omega)).mp c2
      omega
    · replace c2 := mt (nI_leI (by omega) (by omega)).mpr c2
      refine x_run 1 (pc' := 31) (lv' := [(0, .ref (X.1 8))]) (st' := [.long (0)]) rfl ?_
      rw [show o_end p_open M = (6, none, M) from if_pos c1]
      exact x_ret (v := some (.long (0))) rfl rfl rfl ⟨rfl, _, fun _ => rfl, R.less (by omega) (by omega)⟩
  · replace c1 := Classical.not_not.mp c1
    refine x_run 1 (pc' := 9) (lv' := [(0, .ref (X.1 8))]) (st' := [.ref (X.1 8), .ref (X.1 8)]) rfl ?_
    refine x_rd (v := .int (bI (!p_unr M (pa M) 0))) (k' := 85) (as := [.ref (X.1 8)]) (rest := [.ref (X.1 8)]) (x_isV (np := 0) rfl rfl rfl R.c8 rfl) (k_unr R) ?_
    refine x_if (c := ¬ bI (!p_unr M (pa M) 0) = 0) (t := 19) rfl rfl (fun c3 => ?_) (fun c3 => ?_)
    · replace c3 := bI_n0 c3
      refine x_run 1 (pc' := 20) (lv' := [(0, .ref (X.1 8))]) (st' := [.int (0), .ref (X.1 8)]) rfl ?_
      refine x_put rfl rfl R.c8 rfl ?_
      refine gen_h (A := Rep u (v + 480 + 480 + 60) X P M ((0, z.2))) (R.mCode _) (fun h R => ?_)
      refine x_run 1 (pc' := 24) (lv' := [(0, .ref (X.1 8))]) (st' := [.ref (X.1 8)]) rfl ?_
      refine x_get (v := .int (0)) rfl rfl R.c8 rfl ?_
      refine x_if (c := nI 0 ≤ nI 0) (t := 32) rfl rfl (fun c4 => ?_) (fun c4 => ?_)
      · replace c4 := (nI_leI (by omega) (by omega)).mp c4
        refine x_run 2 (pc' := 34) (lv' := [(1, .int (0)), (0, .ref (X.1 8))]) (st' := []) rfl ?_
        have b := hI.2 c1
        refine k_drop (v := v + 480 + 60 * (7 + 1)) (pn M) 0 M h (R.less (Nat.le_refl _) (by omega)) (by omega) (fun h R => ?_)
        have b1 := Bnd.drop (pn M) 0 M b (by omega)
        have h0 := b1.cash0
        have k1 := lk_drop (pn M) 0 M (by omega)
        have eS := serveR_eq (7 + 1) 0 (p_drop (pn M) 0 M) 0 (hI.1.1.lk k1) (w0.sm.sh k1.1)
        have b2 := Bnd.serveR p_open (7 + 1) 0 (p_drop (pn M) 0 M) 0 b1 (by rw [k1.1.1]; exact m60) (fun r => by show (p_drop (pn M) 0 M).2.1 3 r ≤ 10000; rw [k1.1.2.2]; exact w0.pc r)
        refine x_run 2 (pc' := 79) (lv' := [(0, .ref (X.1 8))]) (st' := [.int (7), .ref (X.1 8)]) rfl ?_
        refine x_wr (v := .long ((p_serveR p_openM (7 + 1) 0 (p_drop (pn M) 0 M) 0).2)) (A := Rep u (v + 480) X P ((p_serveR p_openM (7 + 1) 0 (p_drop (pn M) 0 M) 0).1) ((0, z.2))) (k' := 82) (as := [.ref (X.1 8), .int (7)]) (rest := []) (x_isV (np := 1) rfl rfl rfl R.c8 rfl) (k_through (l := 7) R (by omega) h0) (fun h R => ?_)
        refine x_run 3 (pc' := 85) (lv' := [(3, .int (0)), (1, .long ((p_serveR p_openM (7 + 1) 0 (p_drop (pn M) 0 M) 0).2)), (0, .ref (X.1 8))]) (st' := []) rfl ?_
        refine x_lv (a := [(3, .int (0)), (0, .ref (X.1 8))]) rfl rfl ⟨rfl, rfl, trivial⟩ ?_
        rw [eS] at R
        rw [← zm_self (0, z.2)] at R
        refine k_ranks (v := v) 8 0 _ h _ _ _ R (by omega) (Be.of b2 0) (fun h L A B R => ?_)
        rw [show o_end p_open M = (0, some (.long (pL (p_end2 p_open M) 7 0)), sI (p_end2 p_open M) 4 0 1) from by rw [o_end, if_neg (not_not_intro c1), if_neg (by simpa using c3)]]
        replace R : Rep u v X P (p_end2 p_open M) (zm (0, z.2) L A B) h := R
        generalize p_end2 p_open M = E at *
        replace R : Rep u v X P E (zm (0, z.2) L A B) h := R
        refine x_run 2 (pc' := 251) (lv' := [(0, .ref (X.1 8))]) (st' := [.int (1), .ref (X.1 8)]) rfl ?_
        refine x_put rfl rfl R.c8 rfl ?_
        refine gen_h (A := Rep u v X P (sI E 4 0 (1)) (zm (0, z.2) L A B)) (R.mEnded _) (fun h R => ?_)
        refine x_run 1 (pc' := 255) (lv' := [(0, .ref (X.1 8))]) (st' := [.ref (X.1 8)]) rfl ?_
        refine x_get (v := .long (pL E 7 0)) rfl rfl R.c8 rfl ?_
        exact x_ret (v := some (.long (pL E 7 0))) rfl rfl rfl ⟨rfl, (zm (0, z.2) L A B).2, fun _ => rfl, R⟩
      · replace c4 := mt (nI_leI (by omega) (by omega)).mpr c4
        omega
    · replace c3 := bI_0.mp (Classical.not_not.mp c3)
      refine x_run 2 (pc' := 20) (lv' := [(0, .ref (X.1 8))]) (st' := [.int (1), .ref (X.1 8)]) rfl ?_
      refine x_put rfl rfl R.c8 rfl ?_
      refine gen_h (A := Rep u (v + 480 + 480 + 60) X P M ((1, z.2))) (R.mCode _) (fun h R => ?_)
      refine x_run 1 (pc' := 24) (lv' := [(0, .ref (X.1 8))]) (st' := [.ref (X.1 8)]) rfl ?_
      refine x_get (v := .int (1)) rfl rfl R.c8 rfl ?_
      refine x_if (c := nI 1 ≤ nI 0) (t := 32) rfl rfl (fun c5 => ?_) (fun c5 => ?_)
      · replace c5 := (nI_leI (by omega) (by omega)).mp c5
        omega
      · replace c5 := mt (nI_leI (by omega) (by omega)).mpr c5
        refine x_run 1 (pc' := 31) (lv' := [(0, .ref (X.1 8))]) (st' := [.long (0)]) rfl ?_
        rw [show o_end p_open M = (6, none, M) from by rw [o_end, if_neg (not_not_intro c1), if_pos (by simpa using c3)]]
        exact x_ret (v := some (.long (0))) rfl rfl rfl ⟨rfl, _, fun _ => rfl, R.less (by omega) (by omega)⟩
theorem inv_end {t : Nat} (h : Inv (t + 1) P) : Inv t (o_end p_open P).2.2 := by
  unfold o_end
  split
  · exact h.less
  · split
    · exact h.less
    · have k1 := lk_drop (pn P) 0 P (by omega)
      have k2 := lk_serveR p_open (7 + 1) 0 (p_drop (pn P) 0 P) 0
      have k : Lk P (p_end2 p_open P) := by
        unfold p_end2 p_end1
        exact (k1.trans k2).trans (lk_ranks 8 0 _)
      generalize p_end2 p_open P = E at *
      refine ⟨h.1.lk (k.trans (lk_end E 1)), fun e => ?_⟩
      have e : pI (sI E 4 0 1) 4 0 = 0 := e
      rw [rI, if_pos ⟨rfl, rfl⟩] at e
      exact absurd e (by decide)
end MOD8
