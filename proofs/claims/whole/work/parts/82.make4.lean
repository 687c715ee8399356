section MAKE4
variable {u v d : Nat} {X : xX} {P M : pP} {z : zZ} {h : mm_H} {i j a c r : Nat}
theorem c_addS (R : Rep u v X P M z h) (hj : j < pa P) (hk : pN P 1 j < 4) (hc : c < pn P) (l : Int64) : Wx d 47 0 (lv_args 0 [.ref (X.1 (200 + j)), .ref (X.1 (100 + c)), .long l]) [] h (fun r0 => r0.1 = .inl none ∧ Rep u v X (p_sec P j c l) M z r0.2) := by
  have l3 : lv X P (300 + j) := Or.inr (Or.inr (Or.inr (Or.inl (by omega))))
  have l4 : lv X P (400 + j) := Or.inr (Or.inr (Or.inr (Or.inr (by omega))))
  have l2 : lv X P (200 + j) := Or.inr (Or.inr (Or.inl (by omega)))
  have n23 : X.1 (200 + j) ≠ X.1 (300 + j) := fun e => by have := R.2.1 _ _ l2 l3 e; omega
  have n24 : X.1 (200 + j) ≠ X.1 (400 + j) := fun e => by have := R.2.1 _ _ l2 l4 e; omega
  have n43 : X.1 (400 + j) ≠ X.1 (300 + j) := fun e => by have := R.2.1 _ _ l4 l3 e; omega
  show Wx _ _ 0 [(0, .ref (X.1 (200 + j))), (1, .ref (X.1 (100 + c))), (2, .long l)] [] h _
  refine x_run 1 (pc' := 1) (lv' := [(0, .ref (X.1 (200 + j))), (1, .ref (X.1 (100 + c))), (2, .long l)]) (st' := [.ref (X.1 (200 + j))]) rfl ?_
  refine x_get (v := .ref (X.1 (300 + j))) rfl rfl (R.cA hj) rfl ?_
  refine x_run 1 (pc' := 5) (lv' := [(0, .ref (X.1 (200 + j))), (1, .ref (X.1 (100 + c))), (2, .long l)]) (st' := [.ref (X.1 (200 + j)), .ref (X.1 (300 + j))]) rfl ?_
  refine x_get (v := .int (nI (pN P 1 j))) rfl rfl (R.cA hj) rfl ?_
  refine x_run 1 (pc' := 9) (lv' := [(0, .ref (X.1 (200 + j))), (1, .ref (X.1 (100 + c))), (2, .long l)]) (st' := [.ref (X.1 (100 + c)), .int (nI (pN P 1 j)), .ref (X.1 (300 + j))]) rfl ?_
  refine x_aast3 (j := pN P 1 j) rfl (R.cH hj) (R.cC hc) (mm_idx_nI (by omega) (by omega)) ?_
  refine x_run 1 (pc' := 11) (lv' := [(0, .ref (X.1 (200 + j))), (1, .ref (X.1 (100 + c))), (2, .long l)]) (st' := [.ref (X.1 (200 + j))]) rfl ?_
  refine x_get (v := .ref (X.1 (400 + j))) rfl rfl ((mm_upd_ne _ _ n23).trans (R.cA hj)) rfl ?_
  refine x_run 1 (pc' := 15) (lv' := [(0, .ref (X.1 (200 + j))), (1, .ref (X.1 (100 + c))), (2, .long l)]) (st' := [.ref (X.1 (200 + j)), .ref (X.1 (400 + j))]) rfl ?_
  refine x_get (v := .int (nI (pN P 1 j))) rfl rfl ((mm_upd_ne _ _ n23).trans (R.cA hj)) rfl ?_
  refine x_run 1 (pc' := 19) (lv' := [(0, .ref (X.1 (200 + j))), (1, .ref (X.1 (100 + c))), (2, .long l)]) (st' := [.long l, .int (nI (pN P 1 j)), .ref (X.1 (400 + j))]) rfl ?_
  refine x_last (j := pN P 1 j) rfl ((mm_upd_ne _ _ n43).trans (R.cL hj)) (mm_idx_nI (by omega) (by omega)) ?_
  refine x_run 2 (pc' := 22) (lv' := [(0, .ref (X.1 (200 + j))), (1, .ref (X.1 (100 + c))), (2, .long l)]) (st' := [.ref (X.1 (200 + j)), .ref (X.1 (200 + j))]) rfl ?_
  refine x_get (v := .int (nI (pN P 1 j))) rfl rfl ((mm_upd_ne _ _ n24).trans ((mm_upd_ne _ _ n23).trans (R.cA hj))) rfl ?_
  refine x_run 2 (pc' := 27) (lv' := [(0, .ref (X.1 (200 + j))), (1, .ref (X.1 (100 + c))), (2, .long l)]) (st' := [.int (nI (pN P 1 j) + 1), .ref (X.1 (200 + j))]) rfl ?_
  rw [nI_1]
  refine x_put rfl rfl ((mm_upd_ne _ _ n24).trans ((mm_upd_ne _ _ n23).trans (R.cA hj))) rfl ?_
  refine gen_h (A := Rep u v X (p_sec P j c l) M z) (R.addSec hj hk hc l) (fun h R => ?_)
  exact x_ret (v := none) rfl rfl rfl ⟨rfl, R⟩
theorem c_initC (ha : h.2.2 a = some (.inl (1, t_df 1))) (n r : Int32) (c : Int64) : Wx (d + 1) 39 0 (lv_args 0 [.ref a, .int n, .int r, .long c]) [] h (fun r0 => r0.1 = .inl none ∧ Off a h r0.2 ∧ r0.2.2.2 a = some (.inl (1, [.int n, .int r, .int 0, .long c, .long 0, .long 0, .long 0, .long 0, .int 0]))) := by
  show Wx _ _ 0 [(0, .ref a), (1, .int n), (2, .int r), (3, .long c)] [] h _
  refine x_run 1 (pc' := 1) (lv' := [(0, .ref a), (1, .int n), (2, .int r), (3, .long c)]) (st' := [.ref a]) rfl ?_
  refine x_obj rfl rfl ?_
  refine x_run 2 (pc' := 6) (lv' := [(0, .ref a), (1, .int n), (2, .int r), (3, .long c)]) (st' := [.int n, .ref a]) rfl ?_
  refine x_put rfl rfl ha rfl ?_
  refine gen_h (A := fun h' => Off a h h' ∧ h'.2.2 a = some (.inl (1, [.int n, .int 0, .int 0, .long 0, .long 0, .long 0, .long 0, .long 0, .int 0]))) ⟨Off.upd _ _ _, mm_upd_self _ _ _⟩ (fun h1 o => ?_)
  refine x_run 2 (pc' := 11) (lv' := [(0, .ref a), (1, .int n), (2, .int r), (3, .long c)]) (st' := [.int r, .ref a]) rfl ?_
  refine x_put rfl rfl o.2 rfl ?_
  refine gen_h (A := fun h' => Off a h h' ∧ h'.2.2 a = some (.inl (1, [.int n, .int r, .int 0, .long 0, .long 0, .long 0, .long 0, .long 0, .int 0]))) ⟨o.1.trans (Off.upd _ _ _), mm_upd_self _ _ _⟩ (fun h1 o => ?_)
  refine x_run 2 (pc' := 16) (lv' := [(0, .ref a), (1, .int n), (2, .int r), (3, .long c)]) (st' := [.long c, .ref a]) rfl ?_
  refine x_put rfl rfl o.2 rfl ?_
  refine gen_h (A := fun h' => Off a h h' ∧ h'.2.2 a = some (.inl (1, [.int n, .int r, .int 0, .long c, .long 0, .long 0, .long 0, .long 0, .int 0]))) ⟨o.1.trans (Off.upd _ _ _), mm_upd_self _ _ _⟩ (fun h1 o => ?_)
  refine x_run 2 (pc' := 21) (lv' := [(0, .ref a), (1, .int n), (2, .int r), (3, .long c)]) (st' := [.int 0, .ref a]) rfl ?_
  refine x_put rfl rfl o.2 rfl ?_
  refine gen_h (A := fun h' => Off a h h' ∧ h'.2.2 a = some (.inl (1, [.int n, .int r, .int 0, .long c, .long 0, .long 0, .long 0, .long 0, .int 0]))) ⟨o.1.trans (Off.upd _ _ _), mm_upd_self _ _ _⟩ (fun h1 o => ?_)
  exact x_ret (v := none) rfl rfl rfl ⟨rfl, o⟩
/-- as Rep, with other addresses for what has been made since -/
def RX (u v : Nat) (X : xX) (M : pP) (z : zZ) (P : pP) (h : mm_H) : Prop := ∃ X' : xX, Rep u v X' P M z h ∧ X'.2 = X.2 ∧ ∀ t, t < 29 → X'.1 t = X.1 t
theorem RX.of (R : Rep u v X P M z h) : RX u v X M z P h := ⟨X, R, rfl, fun _ _ => rfl⟩
theorem t_claim (R : Rep (u + 1) v X P M z h) (h0 : X.2.1 = 0) (hn : pn P < 60) (hr : r < 8) (hz : Zc P (pn P)) (c : Int64) : Wx (d + 2) 1 44 [(4, .int (nI (pn P))), (0, .ref (X.1 0)), (1, .int (nI r)), (2, .long c)] [.int (nI (pn P)), .ref (X.1 1)] h (fun r0 => r0.1 = .inl (some (.int (nI (pn P)))) ∧ RX u v X M z (p_claim P r c) r0.2) := by
  obtain ⟨b1, b2⟩ := R.2.2.1
  have fr : ∀ t, lv X P t → X.1 t ≠ h.1 := fun t ht => Nat.ne_of_lt (R.1 t ht).2
  refine x_new rfl rfl (by rw [Nat.ble_eq_true_of_le (show 1 ≤ h.2.1.1 by omega), Nat.ble_eq_true_of_le (show t_N 1 ≤ h.2.1.2 by show 9 ≤ _; omega)]; rfl) ?_
  have R1 := R.push (n := t_N 1) (.inl (1, t_df 1)) (by show 9 ≤ 60; omega)
  have c1 : (mm_push h (t_N 1) (.inl (1, t_df 1))).2.2 h.1 = some (.inl (1, t_df 1)) := mm_push_self _ _ _
  have s1 : h.1 < (mm_push h (t_N 1) (.inl (1, t_df 1))).1 := Nat.lt_succ_self _
  generalize mm_push h (t_N 1) (.inl (1, t_df 1)) = h1 at R1 c1 s1 ⊢
  generalize h.1 = a at fr c1 s1 ⊢
  refine x_run 4 (pc' := 52) (lv' := [(4, .int (nI (pn P))), (0, .ref (X.1 0)), (1, .int (nI r)), (2, .long c)]) (st' := [.long c, .int (nI r), .int (nI (pn P)), .ref a, .ref a, .int (nI (pn P)), .ref (X.1 1)]) rfl ?_
  refine x_wr0 (A := fun h' => Off a h1 h' ∧ h'.2.2 a = some (.inl (1, [.int (nI (pn P)), .int (nI r), .int 0, .long c, .long 0, .long 0, .long 0, .long 0, .int 0]))) (k' := 39) (as := [.ref a, .int (nI (pn P)), .int (nI r), .long c]) (rest := [.ref a, .int (nI (pn P)), .ref (X.1 1)]) (x_isI (np := 3) rfl rfl rfl rfl rfl) (c_initC c1 _ _ _) (fun h2 o => ?_)
  have R2 := R1.offH fr o.1
  have s2 : a < h2.1 := by rw [o.1.1]; exact s1
  have n01 : X.1 0 ≠ X.1 1 := fun e => by have := R2.2.1 0 1 (Or.inl (by omega)) (Or.inl (by omega)) e; omega
  refine x_aast3 (j := pn P) rfl R2.c1 o.2 (mm_idx_nI (by omega) (by omega)) ?_
  refine x_run 2 (pc' := 58) (lv' := [(4, .int (nI (pn P))), (0, .ref (X.1 0)), (1, .int (nI r)), (2, .long c)]) (st' := [.ref (X.1 0), .ref (X.1 0)]) rfl ?_
  refine x_get (v := .int (nI (pn P))) rfl rfl ((mm_upd_ne _ _ n01).trans R2.c0) rfl ?_
  refine x_run 2 (pc' := 63) (lv' := [(4, .int (nI (pn P))), (0, .ref (X.1 0)), (1, .int (nI r)), (2, .long c)]) (st' := [.int (nI (pn P) + 1), .ref (X.1 0)]) rfl ?_
  rw [nI_1]
  refine x_put rfl rfl ((mm_upd_ne _ _ n01).trans R2.c0) rfl ?_
  refine gen_h (A := Rep u v (xA X (100 + pn P) a 0) (p_claim P r c) M z) (R2.addClaim h0 hn hr hz fr s2 o.2) (fun h R => ?_)
  refine x_run 1 (pc' := 68) (lv' := [(4, .int (nI (pn P))), (0, .ref (X.1 0)), (1, .int (nI r)), (2, .long c)]) (st' := [.int (nI (pn P))]) rfl ?_
  refine x_ret (v := some (.int (nI (pn P)))) rfl rfl rfl ⟨rfl, _, R, ?_, fun t ht => xA_ne X (by omega)⟩
  show (0, X.2.2) = X.2
  rw [← h0]
end MAKE4
