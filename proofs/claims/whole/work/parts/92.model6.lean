section MOD6
variable {u v d : Nat} {X : xX} {P M : pP} {z : zZ} {h : mm_H} {i j : Nat}
def m_real1 (P : pP) (j : Nat) (n : Int64) : pP := sL (p_note P 1 (nI j) n) 7 1 (pL P 7 1 + n)
def m_real2 (P : pP) (j : Nat) (n : Int64) : pP × Int64 := p_give j n (pN P 1 j) 0 (m_real1 P j n) 0
def m_real3 (P : pP) (j : Nat) (n : Int64) : pP := sI (sL (m_real2 P j n).1 7 0 (pL (m_real2 P j n).1 7 0 + (n - (m_real2 P j n).2))) 1 j 1
def m_real (opn : pP → Nat → Bool) (P : pP) (j : Nat) (n : Int64) : oO := if g_cents n 0 = false then (5, none, P) else if ¬ pI P 4 0 = 0 then (6, none, P) else if ¬ pI P 1 j = 0 then (6, none, P) else if p_cont P j (pN P 1 j) 0 = true then (6, none, P) else (0, some (.long (n - (m_real2 P j n).2)), p_resolves opn (pn (m_real3 P j n)) 0 (m_real3 P j n))
theorem k_giveS {k : Nat} {Q : mm_O × mm_H → Prop} {n acc c : Int64} (R : Rep u (v + 1) X P M z h) (hd : pN M 2 (4 * j + k) < pn M) (hj : j < 20) (hk : k < 4) (hc : c = p_part M (4 * j + k) (n - acc)) (k1 : ∀ h, Rep u v X P (p_give1 M (pN M 2 (4 * j + k)) (p_part M (4 * j + k) (n - acc))) z h → Wx (d + 4) 75 94 [(6, .int (nI (4 * j + (k + 1)))), (4, .long (n - (acc + p_part M (4 * j + k) (n - acc)))), (0, .ref (X.1 8)), (1, .int (nI j)), (2, .long (n))] [] h Q) : Wx (d + 4) 75 170 [(8, .long (c)), (7, .int (nI (pN M 2 (4 * j + k)))), (6, .int (nI (4 * j + k))), (4, .long (n - acc)), (0, .ref (X.1 8)), (1, .int (nI j)), (2, .long (n))] [] h Q := by
  have m60 := R.m60
  have hj4 : 4 * j + k < 80 := by omega
  refine x_run 1 (pc' := 171) (lv' := [(8, .long (c)), (7, .int (nI (pN M 2 (4 * j + k)))), (6, .int (nI (4 * j + k))), (4, .long (n - acc)), (0, .ref (X.1 8)), (1, .int (nI j)), (2, .long (n))]) (st' := [.ref (X.1 8)]) rfl ?_
  refine x_get (v := .ref (X.1 12)) rfl rfl R.c8 rfl ?_
  refine x_run 2 (pc' := 177) (lv' := [(8, .long (c)), (7, .int (nI (pN M 2 (4 * j + k)))), (6, .int (nI (4 * j + k))), (4, .long (n - acc)), (0, .ref (X.1 8)), (1, .int (nI j)), (2, .long (n))]) (st' := [.int (nI (pN M 2 (4 * j + k))), .ref (X.1 12), .int (nI (pN M 2 (4 * j + k))), .ref (X.1 12)]) rfl ?_
  refine x_lald (j := pN M 2 (4 * j + k)) rfl R.c12 (mm_idx_nI (by omega) (by omega)) ?_
  refine x_run 2 (pc' := 181) (lv' := [(8, .long (c)), (7, .int (nI (pN M 2 (4 * j + k)))), (6, .int (nI (4 * j + k))), (4, .long (n - acc)), (0, .ref (X.1 8)), (1, .int (nI j)), (2, .long (n))]) (st' := [.long ((pL M 2 (pN M 2 (4 * j + k))) + c), .int (nI (pN M 2 (4 * j + k))), .ref (X.1 12)]) rfl ?_
  refine x_last (j := pN M 2 (4 * j + k)) rfl R.c12 (mm_idx_nI (by omega) (by omega)) ?_
  refine gen_h (A := Rep u (v + 1) X P (sL M 2 (pN M 2 (4 * j + k)) ((pL M 2 (pN M 2 (4 * j + k))) + c)) z) (R.mGot _) (fun h R => ?_)
  refine x_run 8 (pc' := 195) (lv' := [(4, .long ((n - acc) - c)), (8, .long (c)), (7, .int (nI (pN M 2 (4 * j + k)))), (6, .int (nI (4 * j + k))), (0, .ref (X.1 8)), (1, .int (nI j)), (2, .long (n))]) (st' := [.long (c), .int (nI (pN M 2 (4 * j + k))), .int (2), .ref (X.1 8)]) rfl ?_
  refine x_wr0 (A := Rep u v X P (p_note (sL M 2 (pN M 2 (4 * j + k)) ((pL M 2 (pN M 2 (4 * j + k))) + c)) 2 (nI (pN M 2 (4 * j + k))) c) z) (k' := 59) (as := [.ref (X.1 8), .int (2), .int (nI (pN M 2 (4 * j + k))), .long (c)]) (rest := []) (x_isV (np := 3) rfl rfl rfl R.c8 rfl) (k_note R _ _ _) (fun h R => ?_)
  refine x_run 1 (pc' := 201) (lv' := [(6, .int (nI (4 * j + k) + 1)), (4, .long ((n - acc) - c)), (8, .long (c)), (7, .int (nI (pN M 2 (4 * j + k)))), (0, .ref (X.1 8)), (1, .int (nI j)), (2, .long (n))]) (st' := []) rfl ?_
  rw [nI_1]
  refine x_run 1 (pc' := 94) (lv' := [(6, .int (nI (4 * j + k + 1))), (4, .long ((n - acc) - c)), (8, .long (c)), (7, .int (nI (pN M 2 (4 * j + k)))), (0, .ref (X.1 8)), (1, .int (nI j)), (2, .long (n))]) (st' := []) rfl ?_
  refine x_lv (a := [(6, .int (nI (4 * j + k + 1))), (4, .long ((n - acc) - c)), (0, .ref (X.1 8)), (1, .int (nI j)), (2, .long (n))]) rfl rfl ⟨rfl, rfl, rfl, rfl, rfl, trivial⟩ ?_
  subst hc
  rw [sub_sub64]
  exact k1 h (R.gh (pN M 2 (4 * j + k)) (pI M 5 (pN M 2 (4 * j + k)) - 1))
theorem k_give {n : Int64} {Q : mm_O × mm_H → Prop} : ∀ (m : Nat) (k : Nat) (acc : Int64) (M : pP) (h : mm_H), Rep u (v + m) X P M z h → k + m = pN M 1 j ∧ j < pa M → (∀ h, Rep u v X P ((p_give j n m k M acc).1) z h → Wx (d + 4) 75 204 [(6, .int (nI (4 * j + (k + m)))), (4, .long (n - (p_give j n m k M acc).2)), (0, .ref (X.1 8)), (1, .int (nI j)), (2, .long (n))] [] h Q) → Wx (d + 4) 75 94 [(6, .int (nI (4 * j + k))), (4, .long (n - acc)), (0, .ref (X.1 8)), (1, .int (nI j)), (2, .long (n))] [] h Q := by
  intro m
  induction m with
  | zero =>
    intro k acc M h R hm kk
    obtain ⟨hm, hj⟩ := hm
    have b20 := R.b20
    have mn := R.wM.mn hj
    refine x_run 4 (pc' := 99) (lv' := [(6, .int (nI (4 * j + k))), (4, .long (n - acc)), (0, .ref (X.1 8)), (1, .int (nI j)), (2, .long (n))]) (st' := [.int ((nI 4) * (nI j)), .int (nI (4 * j + k))]) rfl ?_
    rw [pk_mul]
    refine x_run 1 (pc' := 100) (lv' := [(6, .int (nI (4 * j + k))), (4, .long (n - acc)), (0, .ref (X.1 8)), (1, .int (nI j)), (2, .long (n))]) (st' := [.ref (X.1 8), .int (nI (4 * j)), .int (nI (4 * j + k))]) rfl ?_
    refine x_get (v := .ref (X.1 17)) rfl rfl R.c8 rfl ?_
    refine x_run 1 (pc' := 104) (lv' := [(6, .int (nI (4 * j + k))), (4, .long (n - acc)), (0, .ref (X.1 8)), (1, .int (nI j)), (2, .long (n))]) (st' := [.int (nI j), .ref (X.1 17), .int (nI (4 * j)), .int (nI (4 * j + k))]) rfl ?_
    refine x_iald (j := j) rfl R.c17 (mm_idx_nI (by omega) (by omega)) ?_
    refine x_run 1 (pc' := 106) (lv' := [(6, .int (nI (4 * j + k))), (4, .long (n - acc)), (0, .ref (X.1 8)), (1, .int (nI j)), (2, .long (n))]) (st' := [.int ((nI (4 * j)) + (nI (pN M 1 j))), .int (nI (4 * j + k))]) rfl ?_
    rw [nI_add]
    refine x_if (c := nI ((4 * j) + (pN M 1 j)) ≤ nI (4 * j + k)) (t := 204) rfl rfl (fun c1 => ?_) (fun c1 => ?_)
    · replace c1 := (nI_leI (by omega) (by omega)).mp c1
      refine x_lv (a := [(6, .int (nI (4 * j + k))), (4, .long (n - acc)), (0, .ref (X.1 8)), (1, .int (nI j)), (2, .long (n))]) rfl rfl ⟨rfl, rfl, rfl, rfl, rfl, trivial⟩ ?_
      exact kk h R
    · replace c1 := mt (nI_leI (by omega) (by omega)).mpr c1
      omega
  | succ m ih =>
    intro k acc M h R hm kk
    have R : Rep u (v + m + 1) X P M z h := R
    obtain ⟨hm, hj⟩ := hm
    have m60 := R.m60
    have b20 := R.b20
    have mn := R.wM.mn hj
    have hk : k < pN M 1 j := by omega
    have hd := R.wM.hd hj hk
    rw [show k + (m + 1) = k + 1 + m by omega] at kk
    refine x_run 4 (pc' := 99) (lv' := [(6, .int (nI (4 * j + k))), (4, .long (n - acc)), (0, .ref (X.1 8)), (1, .int (nI j)), (2, .long (n))]) (st' := [.int ((nI 4) * (nI j)), .int (nI (4 * j + k))]) rfl ?_
    rw [pk_mul]
    refine x_run 1 (pc' := 100) (lv' := [(6, .int (nI (4 * j + k))), (4, .long (n - acc)), (0, .ref (X.1 8)), (1, .int (nI j)), (2, .long (n))]) (st' := [.ref (X.1 8), .int (nI (4 * j)), .int (nI (4 * j + k))]) rfl ?_
    refine x_get (v := .ref (X.1 17)) rfl rfl R.c8 rfl ?_
    refine x_run 1 (pc' := 104) (lv' := [(6, .int (nI (4 * j + k))), (4, .long (n - acc)), (0, .ref (X.1 8)), (1, .int (nI j)), (2, .long (n))]) (st' := [.int (nI j), .ref (X.1 17), .int (nI (4 * j)), .int (nI (4 * j + k))]) rfl ?_
    refine x_iald (j := j) rfl R.c17 (mm_idx_nI (by omega) (by omega)) ?_
    refine x_run 1 (pc' := 106) (lv' := [(6, .int (nI (4 * j + k))), (4, .long (n - acc)), (0, .ref (X.1 8)), (1, .int (nI j)), (2, .long (n))]) (st' := [.int ((nI (4 * j)) + (nI (pN M 1 j))), .int (nI (4 * j + k))]) rfl ?_
    rw [nI_add]
    refine x_if (c := nI ((4 * j) + (pN M 1 j)) ≤ nI (4 * j + k)) (t := 204) rfl rfl (fun c1 => ?_) (fun c1 => ?_)
    · replace c1 := (nI_leI (by omega) (by omega)).mp c1
      omega
    · replace c1 := mt (nI_leI (by omega) (by omega)).mpr c1
      refine x_run 1 (pc' := 110) (lv' := [(6, .int (nI (4 * j + k))), (4, .long (n - acc)), (0, .ref (X.1 8)), (1, .int (nI j)), (2, .long (n))]) (st' := [.ref (X.1 8)]) rfl ?_
      refine x_get (v := .ref (X.1 18)) rfl rfl R.c8 rfl ?_
      refine x_run 1 (pc' := 115) (lv' := [(6, .int (nI (4 * j + k))), (4, .long (n - acc)), (0, .ref (X.1 8)), (1, .int (nI j)), (2, .long (n))]) (st' := [.int (nI (4 * j + k)), .ref (X.1 18)]) rfl ?_
      refine x_iald (j := 4 * j + k) rfl R.c18 (mm_idx_nI (by omega) (by omega)) ?_
      refine x_run 3 (pc' := 121) (lv' := [(7, .int (nI (pN M 2 (4 * j + k)))), (6, .int (nI (4 * j + k))), (4, .long (n - acc)), (0, .ref (X.1 8)), (1, .int (nI j)), (2, .long (n))]) (st' := [.int (nI (pN M 2 (4 * j + k))), .ref (X.1 8)]) rfl ?_
      refine x_rd (v := .long (p_net M (pN M 2 (4 * j + k)))) (k' := 60) (as := [.ref (X.1 8), .int (nI (pN M 2 (4 * j + k)))]) (rest := []) (x_isV (np := 1) rfl rfl rfl R.c8 rfl) (k_net R hd) ?_
      refine x_run 1 (pc' := 125) (lv' := [(7, .int (nI (pN M 2 (4 * j + k)))), (6, .int (nI (4 * j + k))), (4, .long (n - acc)), (0, .ref (X.1 8)), (1, .int (nI j)), (2, .long (n))]) (st' := [.ref (X.1 8), .long (p_net M (pN M 2 (4 * j + k)))]) rfl ?_
      refine x_get (v := .ref (X.1 19)) rfl rfl R.c8 rfl ?_
      refine x_run 1 (pc' := 130) (lv' := [(7, .int (nI (pN M 2 (4 * j + k)))), (6, .int (nI (4 * j + k))), (4, .long (n - acc)), (0, .ref (X.1 8)), (1, .int (nI j)), (2, .long (n))]) (st' := [.int (nI (4 * j + k)), .ref (X.1 19), .long (p_net M (pN M 2 (4 * j + k)))]) rfl ?_
      refine x_lald (j := 4 * j + k) rfl R.c19 (mm_idx_nI (by omega) (by omega)) ?_
      refine x_lge (t := 144) rfl rfl rfl (fun c2 => ?_) (fun c2 => ?_)
      · refine x_run 1 (pc' := 145) (lv' := [(7, .int (nI (pN M 2 (4 * j + k)))), (6, .int (nI (4 * j + k))), (4, .long (n - acc)), (0, .ref (X.1 8)), (1, .int (nI j)), (2, .long (n))]) (st' := [.ref (X.1 8)]) rfl ?_
        refine x_get (v := .ref (X.1 19)) rfl rfl R.c8 rfl ?_
        refine x_run 1 (pc' := 150) (lv' := [(7, .int (nI (pN M 2 (4 * j + k)))), (6, .int (nI (4 * j + k))), (4, .long (n - acc)), (0, .ref (X.1 8)), (1, .int (nI j)), (2, .long (n))]) (st' := [.int (nI (4 * j + k)), .ref (X.1 19)]) rfl ?_
        refine x_lald (j := 4 * j + k) rfl R.c19 (mm_idx_nI (by omega) (by omega)) ?_
        refine x_run 3 (pc' := 157) (lv' := [(8, .long (pL M 5 (4 * j + k))), (7, .int (nI (pN M 2 (4 * j + k)))), (6, .int (nI (4 * j + k))), (4, .long (n - acc)), (0, .ref (X.1 8)), (1, .int (nI j)), (2, .long (n))]) (st' := [.long (n - acc), .long (pL M 5 (4 * j + k))]) rfl ?_
        refine x_lge (t := 166) rfl rfl rfl (fun c3 => ?_) (fun c3 => ?_)
        · refine x_run 2 (pc' := 170) (lv' := [(8, .long (n - acc)), (7, .int (nI (pN M 2 (4 * j + k)))), (6, .int (nI (4 * j + k))), (4, .long (n - acc)), (0, .ref (X.1 8)), (1, .int (nI j)), (2, .long (n))]) (st' := []) rfl ?_
          refine x_lv (a := [(8, .long (n - acc)), (7, .int (nI (pN M 2 (4 * j + k)))), (6, .int (nI (4 * j + k))), (4, .long (n - acc)), (0, .ref (X.1 8)), (1, .int (nI j)), (2, .long (n))]) rfl rfl ⟨rfl, rfl, rfl, rfl, rfl, rfl, rfl, trivial⟩ ?_
          rw [show p_give j n (m + 1) k M acc = p_give j n m (k + 1) (p_give1 M (pN M 2 (4 * j + k)) (p_part M (4 * j + k) (n - acc))) (acc + p_part M (4 * j + k) (n - acc)) from rfl] at kk
          exact k_giveS (v := v + m) R hd (by omega) (by omega) (by rw [p_part, ← part_m, if_neg (Int64.not_lt.mpr c2), if_neg (Int64.not_lt.mpr c3)]) (fun h R => ih (k + 1) _ _ _ R ⟨by show _ = pN M 1 j; omega, hj⟩ kk)
        · refine x_run 3 (pc' := 170) (lv' := [(8, .long (pL M 5 (4 * j + k))), (7, .int (nI (pN M 2 (4 * j + k)))), (6, .int (nI (4 * j + k))), (4, .long (n - acc)), (0, .ref (X.1 8)), (1, .int (nI j)), (2, .long (n))]) (st' := []) rfl ?_
          refine x_lv (a := [(8, .long (pL M 5 (4 * j + k))), (7, .int (nI (pN M 2 (4 * j + k)))), (6, .int (nI (4 * j + k))), (4, .long (n - acc)), (0, .ref (X.1 8)), (1, .int (nI j)), (2, .long (n))]) rfl rfl ⟨rfl, rfl, rfl, rfl, rfl, rfl, rfl, trivial⟩ ?_
          rw [show p_give j n (m + 1) k M acc = p_give j n m (k + 1) (p_give1 M (pN M 2 (4 * j + k)) (p_part M (4 * j + k) (n - acc))) (acc + p_part M (4 * j + k) (n - acc)) from rfl] at kk
          exact k_giveS (v := v + m) R hd (by omega) (by omega) (by rw [p_part, ← part_m, if_neg (Int64.not_lt.mpr c2), if_pos (Int64.not_le.mp c3)]) (fun h R => ih (k + 1) _ _ _ R ⟨by show _ = pN M 1 j; omega, hj⟩ kk)
      · refine x_run 2 (pc' := 138) (lv' := [(7, .int (nI (pN M 2 (4 * j + k)))), (6, .int (nI (4 * j + k))), (4, .long (n - acc)), (0, .ref (X.1 8)), (1, .int (nI j)), (2, .long (n))]) (st' := [.int (nI (pN M 2 (4 * j + k))), .ref (X.1 8)]) rfl ?_
        refine x_rd (v := .long (p_net M (pN M 2 (4 * j + k)))) (k' := 60) (as := [.ref (X.1 8), .int (nI (pN M 2 (4 * j + k)))]) (rest := []) (x_isV (np := 1) rfl rfl rfl R.c8 rfl) (k_net R hd) ?_
        refine x_run 4 (pc' := 157) (lv' := [(8, .long (p_net M (pN M 2 (4 * j + k)))), (7, .int (nI (pN M 2 (4 * j + k)))), (6, .int (nI (4 * j + k))), (4, .long (n - acc)), (0, .ref (X.1 8)), (1, .int (nI j)), (2, .long (n))]) (st' := [.long (n - acc), .long (p_net M (pN M 2 (4 * j + k)))]) rfl ?_
        refine x_lge (t := 166) rfl rfl rfl (fun c4 => ?_) (fun c4 => ?_)
        · refine x_run 2 (pc' := 170) (lv' := [(8, .long (n - acc)), (7, .int (nI (pN M 2 (4 * j + k)))), (6, .int (nI (4 * j + k))), (4, .long (n - acc)), (0, .ref (X.1 8)), (1, .int (nI j)), (2, .long (n))]) (st' := []) rfl ?_
          refine x_lv (a := [(8, .long (n - acc)), (7, .int (nI (pN M 2 (4 * j + k)))), (6, .int (nI (4 * j + k))), (4, .long (n - acc)), (0, .ref (X.1 8)), (1, .int (nI j)), (2, .long (n))]) rfl rfl ⟨rfl, rfl, rfl, rfl, rfl, rfl, rfl, trivial⟩ ?_
          rw [show p_give j n (m + 1) k M acc = p_give j n m (k + 1) (p_give1 M (pN M 2 (4 * j + k)) (p_part M (4 * j + k) (n - acc))) (acc + p_part M (4 * j + k) (n - acc)) from rfl] at kk
          exact k_giveS (v := v + m) R hd (by omega) (by omega) (by rw [p_part, ← part_m, if_pos (Int64.not_le.mp c2), if_neg (Int64.not_lt.mpr c4)]) (fun h R => ih (k + 1) _ _ _ R ⟨by show _ = pN M 1 j; omega, hj⟩ kk)
        · refine x_run 3 (pc' := 170) (lv' := [(8, .long (p_net M (pN M 2 (4 * j + k)))), (7, .int (nI (pN M 2 (4 * j + k)))), (6, .int (nI (4 * j + k))), (4, .long (n - acc)), (0, .ref (X.1 8)), (1, .int (nI j)), (2, .long (n))]) (st' := []) rfl ?_
          refine x_lv (a := [(8, .long (p_net M (pN M 2 (4 * j + k)))), (7, .int (nI (pN M 2 (4 * j + k)))), (6, .int (nI (4 * j + k))), (4, .long (n - acc)), (0, .ref (X.1 8)), (1, .int (nI j)), (2, .long (n))]) rfl rfl ⟨rfl, rfl, rfl, rfl, rfl, rfl, rfl, trivial⟩ ?_
          rw [show p_give j n (m + 1) k M acc = p_give j n m (k + 1) (p_give1 M (pN M 2 (4 * j + k)) (p_part M (4 * j + k) (n - acc))) (acc + p_part M (4 * j + k) (n - acc)) from rfl] at kk
          exact k_giveS (v := v + m) R hd (by omega) (by omega) (by rw [p_part, ← part_m, if_pos (Int64.not_le.mp c2), if_pos (Int64.not_le.mp c4)]) (fun h R => ih (k + 1) _ _ _ R ⟨by show _ = pN M 1 j; omega, hj⟩ kk)
theorem k_resolves {rest : Int64} {Q : mm_O × mm_H → Prop} : ∀ (m : Nat) (i : Nat) (M : pP) (h : mm_H), Rep u (v + 2 * m) X P M z h → i + m = pn M → (∀ h, Rep u v X P (p_resolves p_openM m i M) z h → Wx (d + 4) 75 248 [(6, .int (nI (i + m))), (4, .long rest), (0, .ref (X.1 8))] [] h Q) → Wx (d + 4) 75 225 [(6, .int (nI i)), (4, .long (rest)), (0, .ref (X.1 8))] [] h Q := by
  intro m
  induction m with
  | zero =>
    intro i M h R hm kk
    have m60 := R.m60
    refine x_run 2 (pc' := 228) (lv' := [(6, .int (nI i)), (4, .long (rest)), (0, .ref (X.1 8))]) (st' := [.ref (X.1 8), .int (nI i)]) rfl ?_
    refine x_get (v := .int (nI (pn M))) rfl rfl R.c8 rfl ?_
    refine x_if (c := nI (pn M) ≤ nI i) (t := 248) rfl rfl (fun c1 => ?_) (fun c1 => ?_)
    · replace c1 := (nI_leI (by omega) (by omega)).mp c1
      refine x_lv (a := [(6, .int (nI i)), (4, .long (rest)), (0, .ref (X.1 8))]) rfl rfl ⟨rfl, rfl, rfl, trivial⟩ ?_
      exact kk h R
    · replace c1 := mt (nI_leI (by omega) (by omega)).mpr c1
      omega
  | succ m ih =>
    intro i M h R hm kk
    have R : Rep u (v + 2 * m + 1 + 1) X P M z h := R.less (Nat.le_refl _) (by omega)
    have m60 := R.m60
    have hi : i < pn M := by omega
    rw [show i + (m + 1) = i + 1 + m by omega] at kk
    refine x_run 2 (pc' := 228) (lv' := [(6, .int (nI i)), (4, .long (rest)), (0, .ref (X.1 8))]) (st' := [.ref (X.1 8), .int (nI i)]) rfl ?_
    refine x_get (v := .int (nI (pn M))) rfl rfl R.c8 rfl ?_
    refine x_if (c := nI (pn M) ≤ nI i) (t := 248) rfl rfl (fun c1 => ?_) (fun c1 => ?_)
    · replace c1 := (nI_leI (by omega) (by omega)).mp c1
      omega
    · replace c1 := mt (nI_leI (by omega) (by omega)).mpr c1
      refine x_run 2 (pc' := 237) (lv' := [(6, .int (nI i)), (4, .long (rest)), (0, .ref (X.1 8))]) (st' := [.int (nI i), .ref (X.1 8)]) rfl ?_
      refine x_wr (v := .long (p_resV (p_openM M i) M i)) (A := Rep u (v + 2 * m) X P (p_resolve (p_openM M i) M i) z) (k' := 69) (as := [.ref (X.1 8), .int (nI i)]) (rest := []) (x_isV (np := 1) rfl rfl rfl R.c8 rfl) (k_settled R hi) (fun h R => ?_)
      refine x_run 2 (pc' := 245) (lv' := [(6, .int (nI i + 1)), (7, .long (p_resV (p_openM M i) M i)), (4, .long (rest)), (0, .ref (X.1 8))]) (st' := []) rfl ?_
      rw [nI_1]
      refine x_run 1 (pc' := 225) (lv' := [(6, .int (nI (i + 1))), (7, .long (p_resV (p_openM M i) M i)), (4, .long (rest)), (0, .ref (X.1 8))]) (st' := []) rfl ?_
      refine x_lv (a := [(6, .int (nI (i + 1))), (4, .long (rest)), (0, .ref (X.1 8))]) rfl rfl ⟨rfl, rfl, rfl, trivial⟩ ?_
      rw [show p_resolves p_openM (m + 1) i M = p_resolves p_openM m (i + 1) (p_resolve (p_openM M i) M i) from rfl] at kk
      exact ih (i + 1) _ _ R (by rw [(sh_resolve (p_openM M i) M i).1]; omega) kk
theorem k_real (R : Rep u (v + 120 + 4 + 1) X P M z h) (hj : j < pa M) (n : Int64) : Wx (d + 4) 75 0 (lv_args 0 [.ref (X.1 8), .int (nI j), .long (n)]) [] h (mQ u v X P z (mo (cd 7 5 6) (some (.long 0)) (m_real p_openM M j n))) := by
  have b20 := R.b20
  have mn := R.wM.mn hj
  show Wx _ _ 0 [(0, .ref (X.1 8)), (1, .int (nI j)), (2, .long (n))] [] h _
  refine x_run 3 (pc' := 3) (lv' := [(0, .ref (X.1 8)), (1, .int (nI j)), (2, .long (n))]) (st' := [.int (nI j), .ref (X.1 8), .ref (X.1 8)]) rfl ?_
  refine x_rd (v := .int (bI (true))) (k' := 57) (as := [.ref (X.1 8), .int (nI j)]) (rest := [.ref (X.1 8)]) (x_isV (np := 1) rfl rfl rfl R.c8 rfl) (k_isAt R hj) ?_
  refine x_if (c := ¬ bI (true) = 0) (t := 13) rfl rfl (fun c1 => ?_) (fun c1 => ?_)
  · replace c1 := bI_n0 c1
    refine x_run 2 (pc' := 15) (lv' := [(0, .ref (X.1 8)), (1, .int (nI j)), (2, .long (n))]) (st' := [.long (0), .long (n), .ref (X.1 8)]) rfl ?_
    refine x_ldc2 (x := 400000000) rfl rfl ?_
    refine x_rd (v := .int (bI (g_cents n 0))) (k' := 55) (as := [.long (n), .long (0), .long (400000000)]) (rest := [.ref (X.1 8)]) (x_isS (np := 3) rfl rfl rfl rfl rfl) (k_in _ _ _) ?_
    refine x_if (c := ¬ bI (g_cents n 0) = 0) (t := 28) rfl rfl (fun c2 => ?_) (fun c2 => ?_)
    · replace c2 := bI_n0 c2
      refine x_run 1 (pc' := 29) (lv' := [(0, .ref (X.1 8)), (1, .int (nI j)), (2, .long (n))]) (st' := [.ref (X.1 8), .ref (X.1 8)]) rfl ?_
      refine x_get (v := .int (pI M 4 0)) rfl rfl R.c8 rfl ?_
      refine x_if (c := ¬ pI M 4 0 = 0) (t := 52) rfl rfl (fun c3 => ?_) (fun c3 => ?_)
      · refine x_run 2 (pc' := 57) (lv' := [(0, .ref (X.1 8)), (1, .int (nI j)), (2, .long (n))]) (st' := [.int (3), .ref (X.1 8)]) rfl ?_
        refine x_put rfl rfl R.c8 rfl ?_
        refine gen_h (A := Rep u (v + 120 + 4 + 1) X P M ((3, z.2))) (R.mCode _) (fun h R => ?_)
        refine x_run 1 (pc' := 61) (lv' := [(0, .ref (X.1 8)), (1, .int (nI j)), (2, .long (n))]) (st' := [.ref (X.1 8)]) rfl ?_
        refine x_get (v := .int (3)) rfl rfl R.c8 rfl ?_
        refine x_if (c := nI 3 ≤ nI 0) (t := 69) rfl rfl (fun c4 => ?_) (fun c4 => ?_)
        · replace c4 := (nI_leI (by omega) (by omega)).mp c4
          omega
        · replace c4 := mt (nI_leI (by omega) (by omega)).mpr c4
          refine x_run 1 (pc' := 68) (lv' := [(0, .ref (X.1 8)), (1, .int (nI j)), (2, .long (n))]) (st' := [.long (0)]) rfl ?_
          rw [show m_real p_openM M j n = (6, none, M) from by simp only [m_real, c2, c3, not_true_eq_false, not_false_eq_true, if_true, if_false, ite_true, ite_false, reduceIte, reduceCtorEq, Classical.not_not, Bool.false_eq_true]]
          exact x_ret (v := some (.long (0))) rfl rfl rfl ⟨rfl, _, fun _ => rfl, R.less (by omega) (by omega)⟩
      · replace c3 := Classical.not_not.mp c3
        refine x_run 1 (pc' := 36) (lv' := [(0, .ref (X.1 8)), (1, .int (nI j)), (2, .long (n))]) (st' := [.ref (X.1 8), .ref (X.1 8)]) rfl ?_
        refine x_get (v := .ref (X.1 16)) rfl rfl R.c8 rfl ?_
        refine x_run 1 (pc' := 40) (lv' := [(0, .ref (X.1 8)), (1, .int (nI j)), (2, .long (n))]) (st' := [.int (nI j), .ref (X.1 16), .ref (X.1 8)]) rfl ?_
        refine x_zald (j := j) rfl R.c16 (mm_idx_nI (by omega) (by omega)) ?_
        refine x_if (c := ¬ pI M 1 j = 0) (t := 52) rfl rfl (fun c5 => ?_) (fun c5 => ?_)
        · refine x_run 2 (pc' := 57) (lv' := [(0, .ref (X.1 8)), (1, .int (nI j)), (2, .long (n))]) (st' := [.int (3), .ref (X.1 8)]) rfl ?_
          refine x_put rfl rfl R.c8 rfl ?_
          refine gen_h (A := Rep u (v + 120 + 4 + 1) X P M ((3, z.2))) (R.mCode _) (fun h R => ?_)
          refine x_run 1 (pc' := 61) (lv' := [(0, .ref (X.1 8)), (1, .int (nI j)), (2, .long (n))]) (st' := [.ref (X.1 8)]) rfl ?_
          refine x_get (v := .int (3)) rfl rfl R.c8 rfl ?_
          refine x_if (c := nI 3 ≤ nI 0) (t := 69) rfl rfl (fun c6 => ?_) (fun c6 => ?_)
          · replace c6 := (nI_leI (by omega) (by omega)).mp c6
            omega
          · replace c6 := mt (nI_leI (by omega) (by omega)).mpr c6
            refine x_run 1 (pc' := 68) (lv' := [(0, .ref (X.1 8)), (1, .int (nI j)), (2, .long (n))]) (st' := [.long (0)]) rfl ?_
            rw [show m_real p_openM M j n = (6, none, M) from by simp only [m_real, c2, c3, c5, not_true_eq_false, not_false_eq_true, if_true, if_false, ite_true, ite_false, reduceIte, reduceCtorEq, Classical.not_not, Bool.false_eq_true]]
            exact x_ret (v := some (.long (0))) rfl rfl rfl ⟨rfl, _, fun _ => rfl, R.less (by omega) (by omega)⟩
        · replace c5 := Classical.not_not.mp c5
          refine x_run 2 (pc' := 46) (lv' := [(0, .ref (X.1 8)), (1, .int (nI j)), (2, .long (n))]) (st' := [.int (nI j), .ref (X.1 8), .ref (X.1 8)]) rfl ?_
          refine x_rd (v := .int (bI (p_cont M j (pN M 1 j) 0))) (k' := 74) (as := [.ref (X.1 8), .int (nI j)]) (rest := [.ref (X.1 8)]) (x_isV (np := 1) rfl rfl rfl R.c8 rfl) (k_cont R hj) ?_
          refine x_if (c := bI (p_cont M j (pN M 1 j) 0) = 0) (t := 56) rfl rfl (fun c7 => ?_) (fun c7 => ?_)
          · replace c7 := bI_0.mp c7
            refine x_run 1 (pc' := 57) (lv' := [(0, .ref (X.1 8)), (1, .int (nI j)), (2, .long (n))]) (st' := [.int (0), .ref (X.1 8)]) rfl ?_
            refine x_put rfl rfl R.c8 rfl ?_
            refine gen_h (A := Rep u (v + 120 + 4 + 1) X P M ((0, z.2))) (R.mCode _) (fun h R => ?_)
            refine x_run 1 (pc' := 61) (lv' := [(0, .ref (X.1 8)), (1, .int (nI j)), (2, .long (n))]) (st' := [.ref (X.1 8)]) rfl ?_
            refine x_get (v := .int (0)) rfl rfl R.c8 rfl ?_
            refine x_if (c := nI 0 ≤ nI 0) (t := 69) rfl rfl (fun c8 => ?_) (fun c8 => ?_)
            · replace c8 := (nI_leI (by omega) (by omega)).mp c8
              refine x_run 4 (pc' := 73) (lv' := [(0, .ref (X.1 8)), (1, .int (nI j)), (2, .long (n))]) (st' := [.long (n), .int (nI j), .int (1), .ref (X.1 8)]) rfl ?_
              refine x_wr0 (A := Rep u (v + 120 + 4) X P (p_note M 1 (nI j) n) ((0, z.2))) (k' := 59) (as := [.ref (X.1 8), .int (1), .int (nI j), .long (n)]) (rest := []) (x_isV (np := 3) rfl rfl rfl R.c8 rfl) (k_note R _ _ _) (fun h R => ?_)
              refine x_run 2 (pc' := 78) (lv' := [(0, .ref (X.1 8)), (1, .int (nI j)), (2, .long (n))]) (st' := [.ref (X.1 8), .ref (X.1 8)]) rfl ?_
              refine x_get (v := .long (pL M 7 1)) rfl rfl R.c8 rfl ?_
              refine x_run 2 (pc' := 83) (lv' := [(0, .ref (X.1 8)), (1, .int (nI j)), (2, .long (n))]) (st' := [.long ((pL M 7 1) + n), .ref (X.1 8)]) rfl ?_
              refine x_put rfl rfl R.c8 rfl ?_
              refine gen_h (A := Rep u (v + 120 + 4) X P (sL (p_note M 1 (nI j) n) 7 1 ((pL M 7 1) + n)) ((0, z.2))) (R.mInc _) (fun h R => ?_)
              refine x_run 5 (pc' := 92) (lv' := [(4, .long (n)), (0, .ref (X.1 8)), (1, .int (nI j)), (2, .long (n))]) (st' := [.int ((nI 4) * (nI j))]) rfl ?_
              rw [pk_mul]
              refine x_run 1 (pc' := 94) (lv' := [(6, .int (nI (4 * j))), (4, .long (n)), (0, .ref (X.1 8)), (1, .int (nI j)), (2, .long (n))]) (st' := []) rfl ?_
              have R : Rep u (v + 120 + 4) X P (m_real1 M j n) (0, z.2) h := R
              have mn1 : pN (m_real1 M j n) 1 j ≤ 4 := mn
              refine x_lv (a := [(6, .int (nI (4 * j))), (4, .long (n)), (0, .ref (X.1 8)), (1, .int (nI j)), (2, .long (n))]) rfl rfl ⟨rfl, rfl, rfl, rfl, rfl, trivial⟩ ?_
              have kk := k_give (n := n) (d := d) (u := u) (v := v + 120) (X := X) (P := P) (z := (0, z.2)) (j := j) (Q := mQ u v X P z (mo (cd 7 5 6) (some (.long 0)) (m_real p_openM M j n))) (pN M 1 j) 0 0 (m_real1 M j n) h (R.less (Nat.le_refl _) (by omega)) ⟨by show 0 + pN M 1 j = pN M 1 j; omega, hj⟩ (fun h R => ?_)
              · rw [Int64.sub_zero] at kk
                exact kk
              refine x_run 2 (pc' := 206) (lv' := [(6, .int (nI (4 * j + (0 + pN M 1 j)))), (4, .long (n - (m_real2 M j n).2)), (0, .ref (X.1 8)), (1, .int (nI j)), (2, .long (n))]) (st' := [.ref (X.1 8), .ref (X.1 8)]) rfl ?_
              refine x_get (v := .long (pL ((m_real2 M j n).1) 7 0)) rfl rfl R.c8 rfl ?_
              refine x_run 2 (pc' := 212) (lv' := [(6, .int (nI (4 * j + (0 + pN M 1 j)))), (4, .long (n - (m_real2 M j n).2)), (0, .ref (X.1 8)), (1, .int (nI j)), (2, .long (n))]) (st' := [.long ((pL ((m_real2 M j n).1) 7 0) + (n - (m_real2 M j n).2)), .ref (X.1 8)]) rfl ?_
              refine x_put rfl rfl R.c8 rfl ?_
              refine gen_h (A := Rep u (v + 120) X P (sL ((m_real2 M j n).1) 7 0 ((pL ((m_real2 M j n).1) 7 0) + (n - (m_real2 M j n).2))) ((0, z.2))) (R.mCash _) (fun h R => ?_)
              refine x_run 1 (pc' := 216) (lv' := [(6, .int (nI (4 * j + (0 + pN M 1 j)))), (4, .long (n - (m_real2 M j n).2)), (0, .ref (X.1 8)), (1, .int (nI j)), (2, .long (n))]) (st' := [.ref (X.1 8)]) rfl ?_
              refine x_get (v := .ref (X.1 16)) rfl rfl R.c8 rfl ?_
              refine x_run 2 (pc' := 221) (lv' := [(6, .int (nI (4 * j + (0 + pN M 1 j)))), (4, .long (n - (m_real2 M j n).2)), (0, .ref (X.1 8)), (1, .int (nI j)), (2, .long (n))]) (st' := [.int (1), .int (nI j), .ref (X.1 16)]) rfl ?_
              refine x_zast (j := j) rfl R.c16 (mm_idx_nI (by omega) (by omega)) rfl ?_
              refine gen_h (A := Rep u (v + 120) X P (sI (sL ((m_real2 M j n).1) 7 0 ((pL ((m_real2 M j n).1) 7 0) + (n - (m_real2 M j n).2))) 1 j (1)) ((0, z.2))) (R.mReal _) (fun h R => ?_)
              refine x_run 2 (pc' := 225) (lv' := [(6, .int (0)), (4, .long (n - (m_real2 M j n).2)), (0, .ref (X.1 8)), (1, .int (nI j)), (2, .long (n))]) (st' := []) rfl ?_
              have R : Rep u (v + 120) X P (m_real3 M j n) (0, z.2) h := R
              have n60 := R.m60
              refine x_lv (a := [(6, .int (0)), (4, .long (n - (m_real2 M j n).2)), (0, .ref (X.1 8))]) rfl rfl ⟨rfl, rfl, rfl, trivial⟩ ?_
              refine k_resolves (v := v) (pn (m_real3 M j n)) 0 (m_real3 M j n) h (R.less (Nat.le_refl _) (by omega)) (by omega) (fun h R => ?_)
              refine x_run 1 (pc' := 250) (lv' := [(6, .int (nI (0 + pn (m_real3 M j n)))), (4, .long (n - (m_real2 M j n).2)), (0, .ref (X.1 8))]) (st' := [.long (n - (m_real2 M j n).2)]) rfl ?_
              rw [show m_real p_openM M j n = (0, some (.long (n - (m_real2 M j n).2)), p_resolves p_openM (pn (m_real3 M j n)) 0 (m_real3 M j n)) from by simp only [m_real, c2, c3, c5, c7, not_true_eq_false, not_false_eq_true, if_true, if_false, ite_true, ite_false, reduceIte, reduceCtorEq, Classical.not_not, Bool.false_eq_true]]
              exact x_ret (v := some (.long (n - (m_real2 M j n).2))) rfl rfl rfl ⟨rfl, _, fun _ => rfl, R.less (by omega) (by omega)⟩
            · replace c8 := mt (nI_leI (by omega) (by omega)).mpr c8
              omega
          · replace c7 := bI_n0 c7
            refine x_run 2 (pc' := 57) (lv' := [(0, .ref (X.1 8)), (1, .int (nI j)), (2, .long (n))]) (st' := [.int (3), .ref (X.1 8)]) rfl ?_
            refine x_put rfl rfl R.c8 rfl ?_
            refine gen_h (A := Rep u (v + 120 + 4 + 1) X P M ((3, z.2))) (R.mCode _) (fun h R => ?_)
            refine x_run 1 (pc' := 61) (lv' := [(0, .ref (X.1 8)), (1, .int (nI j)), (2, .long (n))]) (st' := [.ref (X.1 8)]) rfl ?_
            refine x_get (v := .int (3)) rfl rfl R.c8 rfl ?_
            refine x_if (c := nI 3 ≤ nI 0) (t := 69) rfl rfl (fun c9 => ?_) (fun c9 => ?_)
            · replace c9 := (nI_leI (by omega) (by omega)).mp c9
              omega
            · replace c9 := mt (nI_leI (by omega) (by omega)).mpr c9
              refine x_run 1 (pc' := 68) (lv' := [(0, .ref (X.1 8)), (1, .int (nI j)), (2, .long (n))]) (st' := [.long (0)]) rfl ?_
              rw [show m_real p_openM M j n = (6, none, M) from by simp only [m_real, c2, c3, c5, c7, not_true_eq_false, not_false_eq_true, if_true, if_false, ite_true, ite_false, reduceIte, reduceCtorEq, Classical.not_not, Bool.false_eq_true]]
              exact x_ret (v := some (.long (0))) rfl rfl rfl ⟨rfl, _, fun _ => rfl, R.less (by omega) (by omega)⟩
    · replace c2 := bI_0.mp (Classical.not_not.mp c2)
      refine x_run 2 (pc' := 57) (lv' := [(0, .ref (X.1 8)), (1, .int (nI j)), (2, .long (n))]) (st' := [.int (2), .ref (X.1 8)]) rfl ?_
      refine x_put rfl rfl R.c8 rfl ?_
      refine gen_h (A := Rep u (v + 120 + 4 + 1) X P M ((2, z.2))) (R.mCode _) (fun h R => ?_)
      refine x_run 1 (pc' := 61) (lv' := [(0, .ref (X.1 8)), (1, .int (nI j)), (2, .long (n))]) (st' := [.ref (X.1 8)]) rfl ?_
      refine x_get (v := .int (2)) rfl rfl R.c8 rfl ?_
      refine x_if (c := nI 2 ≤ nI 0) (t := 69) rfl rfl (fun c10 => ?_) (fun c10 => ?_)
      · replace c10 := (nI_leI (by omega) (by omega)).mp c10
        omega
      · replace c10 := mt (nI_leI (by omega) (by omega)).mpr c10
        refine x_run 1 (pc' := 68) (lv' := [(0, .ref (X.1 8)), (1, .int (nI j)), (2, .long (n))]) (st' := [.long (0)]) rfl ?_
        rw [show m_real p_openM M j n = (5, none, M) from by simp only [m_real, c2, not_true_eq_false, not_false_eq_true, if_true, if_false, ite_true, ite_false, reduceIte, reduceCtorEq, Classical.not_not, Bool.false_eq_true]]
        exact x_ret (v := some (.long (0))) rfl rfl rfl ⟨rfl, _, fun _ => rfl, R.less (by omega) (by omega)⟩
  · replace c1 := bI_0.mp (Classical.not_not.mp c1)
    cases c1
theorem k_realX (R : Rep u v X P M z h) {q : Int32} (hq : q < 0 ∨ nI (pa M) ≤ q) (n : Int64) : Wx (d + 4) 75 0 (lv_args 0 [.ref (X.1 8), .int (q), .long (n)]) [] h (mQ u v X P z (1, (some (.long 0)), M)) := by
  show Wx _ _ 0 [(0, .ref (X.1 8)), (1, .int (q)), (2, .long (n))] [] h _
  refine x_run 3 (pc' := 3) (lv' := [(0, .ref (X.1 8)), (1, .int (q)), (2, .long (n))]) (st' := [.int (q), .ref (X.1 8), .ref (X.1 8)]) rfl ?_
  refine x_rd (v := .int (bI (false))) (k' := 57) (as := [.ref (X.1 8), .int (q)]) (rest := [.ref (X.1 8)]) (x_isV (np := 1) rfl rfl rfl R.c8 rfl) (k_isAf R hq) ?_
  refine x_if (c := ¬ bI (false) = 0) (t := 13) rfl rfl (fun c1 => ?_) (fun c1 => ?_)
  · replace c1 := bI_n0 c1
    cases c1
  · replace c1 := bI_0.mp (Classical.not_not.mp c1)
    refine x_run 2 (pc' := 57) (lv' := [(0, .ref (X.1 8)), (1, .int (q)), (2, .long (n))]) (st' := [.int (1), .ref (X.1 8)]) rfl ?_
    refine x_put rfl rfl R.c8 rfl ?_
    refine gen_h (A := Rep u v X P M ((1, z.2))) (R.mCode _) (fun h R => ?_)
    refine x_run 1 (pc' := 61) (lv' := [(0, .ref (X.1 8)), (1, .int (q)), (2, .long (n))]) (st' := [.ref (X.1 8)]) rfl ?_
    refine x_get (v := .int (1)) rfl rfl R.c8 rfl ?_
    refine x_if (c := nI 1 ≤ nI 0) (t := 69) rfl rfl (fun c2 => ?_) (fun c2 => ?_)
    · replace c2 := (nI_leI (by omega) (by omega)).mp c2
      omega
    · replace c2 := mt (nI_leI (by omega) (by omega)).mpr c2
      refine x_run 1 (pc' := 68) (lv' := [(0, .ref (X.1 8)), (1, .int (q)), (2, .long (n))]) (st' := [.long (0)]) rfl ?_
      exact x_ret (v := some (.long (0))) rfl rfl rfl ⟨rfl, _, fun _ => rfl, R⟩
end MOD6
