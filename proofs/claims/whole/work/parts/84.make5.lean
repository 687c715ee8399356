section MAKE5
variable {u v d : Nat} {X : xX} {P M : pP} {z : zZ} {h : mm_H} {i j a : Nat}
def IA (u v : Nat) (X : xX) (P M : pP) (z : zZ) (a : Nat) (h : mm_H) : Prop := ∃ b c, Rep u v X P M z h ∧ (∀ t, lv X P t → X.1 t ≠ b) ∧ (∀ t, lv X P t → X.1 t ≠ c) ∧ a ≠ b ∧ a ≠ c ∧ b ≠ c ∧ a < h.1 ∧ b < h.1 ∧ c < h.1 ∧
  h.2.2 a = some (.inl (2, [.ref b, .ref c, .int 0, .int 0])) ∧ h.2.2 b = some (.inr (3, 4, fun _ => .null)) ∧ h.2.2 c = some (.inr (1, 4, fun _ => .long 0))
theorem c_initA (R : Rep (u + 1 + 1) v X P M z h) (fr : ∀ t, lv X P t → X.1 t ≠ a) (ha : h.2.2 a = some (.inl (2, t_df 2))) (hs : a < h.1) : Wx (d + 1) 46 0 (lv_args 0 [.ref a]) [] h (fun r0 => r0.1 = .inl none ∧ IA u v X P M z a r0.2) := by
  show Wx _ _ 0 [(0, .ref a)] [] h _
  refine x_run 1 (pc' := 1) (lv' := [(0, .ref a)]) (st' := [.ref a]) rfl ?_
  refine x_obj rfl rfl ?_
  refine x_run 2 (pc' := 6) (lv' := [(0, .ref a)]) (st' := [.int (nI 4), .ref a]) rfl ?_
  refine x_anew (t := 3) rfl rfl (new_ok R (by omega)) ?_
  rw [nI_clamp (show 4 < 2 ^ 31 by omega)]
  have fb : ∀ t, lv X P t → X.1 t ≠ h.1 := fun t ht => Nat.ne_of_lt (R.1 t ht).2
  have R1 := R.push (n := 4) (.inr (3, 4, fun _ => .null)) (by omega)
  have b1 : (mm_push h 4 (.inr (3, 4, fun _ => .null))).2.2 h.1 = some (.inr (3, 4, fun _ => .null)) := mm_push_self _ _ _
  have a1 : (mm_push h 4 (.inr (3, 4, fun _ => .null))).2.2 a = some (.inl (2, t_df 2)) := (mm_push_ne _ _ _ (Nat.ne_of_lt hs)).trans ha
  have s1 : a < (mm_push h 4 (.inr (3, 4, fun _ => .null))).1 := Nat.lt_succ_of_lt hs
  have s2 : h.1 < (mm_push h 4 (.inr (3, 4, fun _ => .null))).1 := Nat.lt_succ_self _
  have nab : a ≠ h.1 := Nat.ne_of_lt hs
  generalize mm_push h 4 (.inr (3, 4, fun _ => .null)) = h1 at R1 b1 a1 s1 s2 ⊢
  generalize h.1 = b at fb b1 s2 nab ⊢
  refine x_put rfl rfl a1 rfl ?_
  have R2 := R1.offH fr (Off.upd a h1 (.inl (2, (t_df 2).set 0 (.ref b))))
  have a2 : (mm_upd h1 a (.inl (2, (t_df 2).set 0 (.ref b)))).2.2 a = some (.inl (2, (t_df 2).set 0 (.ref b))) := mm_upd_self _ _ _
  have b2 := (mm_upd_ne h1 (.inl (2, (t_df 2).set 0 (.ref b))) (Ne.symm nab)).trans b1
  have s3 : a < (mm_upd h1 a (.inl (2, (t_df 2).set 0 (.ref b)))).1 := s1
  have s4 : b < (mm_upd h1 a (.inl (2, (t_df 2).set 0 (.ref b)))).1 := s2
  generalize mm_upd h1 a (.inl (2, (t_df 2).set 0 (.ref b))) = h2 at R2 a2 b2 s3 s4 ⊢
  refine x_run 2 (pc' := 14) (lv' := [(0, .ref a)]) (st' := [.int (nI 4), .ref a]) rfl ?_
  refine x_newa (t := 1) rfl rfl (new_ok R2 (by omega)) ?_
  rw [nI_clamp (show 4 < 2 ^ 31 by omega)]
  have fc : ∀ t, lv X P t → X.1 t ≠ h2.1 := fun t ht => Nat.ne_of_lt (R2.1 t ht).2
  have R3 := R2.push (n := 4) (.inr (1, 4, fun _ => .long 0)) (by omega)
  have c3 : (mm_push h2 4 (.inr (1, 4, fun _ => .long 0))).2.2 h2.1 = some (.inr (1, 4, fun _ => .long 0)) := mm_push_self _ _ _
  have a3 := (mm_push_ne h2 4 (.inr (1, 4, fun _ => .long 0)) (Nat.ne_of_lt s3)).trans a2
  have b3 := (mm_push_ne h2 4 (.inr (1, 4, fun _ => .long 0)) (Nat.ne_of_lt s4)).trans b2
  have s5 : a < (mm_push h2 4 (.inr (1, 4, fun _ => .long 0))).1 := Nat.lt_succ_of_lt s3
  have s6 : b < (mm_push h2 4 (.inr (1, 4, fun _ => .long 0))).1 := Nat.lt_succ_of_lt s4
  have s7 : h2.1 < (mm_push h2 4 (.inr (1, 4, fun _ => .long 0))).1 := Nat.lt_succ_self _
  have nac : a ≠ h2.1 := Nat.ne_of_lt s3
  have nbc : b ≠ h2.1 := Nat.ne_of_lt s4
  show Wx _ _ 16 [(0, .ref a)] [.ref h2.1, .ref a] (mm_push h2 4 (.inr (1, 4, fun _ => .long 0))) _
  generalize mm_push h2 4 (.inr (1, 4, fun _ => .long 0)) = h3 at R3 c3 a3 b3 s5 s6 s7 ⊢
  generalize h2.1 = c at fc c3 s7 nac nbc ⊢
  refine x_put rfl rfl a3 rfl ?_
  have R4 := R3.offH fr (Off.upd a h3 (.inl (2, ((t_df 2).set 0 (.ref b)).set 1 (.ref c))))
  refine x_ret (v := none) rfl rfl rfl ⟨rfl, b, c, R4, fb, fc, nab, nac, nbc, s5, s6, s7, mm_upd_self _ _ _, (mm_upd_ne _ _ (Ne.symm nab)).trans b3, (mm_upd_ne _ _ (Ne.symm nac)).trans c3⟩
theorem t_asset (R : Rep (u + 1 + 1 + 1) v X P M z h) (h0 : X.2.1 = 0) (hn : pa P < 20) (hz : Za P (pa P)) : Wx (d + 2) 3 33 [(1, .int (nI (pa P))), (0, .ref (X.1 0))] [.int (nI (pa P)), .ref (X.1 2)] h (fun r0 => r0.1 = .inl (some (.int (nI (pa P)))) ∧ RX u v X M z (p_asset P) r0.2) := by
  obtain ⟨b1, b2⟩ := R.2.2.1
  have fr : ∀ t, lv X P t → X.1 t ≠ h.1 := fun t ht => Nat.ne_of_lt (R.1 t ht).2
  refine x_new rfl rfl (by rw [Nat.ble_eq_true_of_le (show 1 ≤ h.2.1.1 by omega), Nat.ble_eq_true_of_le (show t_N 2 ≤ h.2.1.2 by show 4 ≤ _; omega)]; rfl) ?_
  have R1 := R.push (n := t_N 2) (.inl (2, t_df 2)) (by show 4 ≤ 60; omega)
  have c1 : (mm_push h (t_N 2) (.inl (2, t_df 2))).2.2 h.1 = some (.inl (2, t_df 2)) := mm_push_self _ _ _
  have s1 : h.1 < (mm_push h (t_N 2) (.inl (2, t_df 2))).1 := Nat.lt_succ_self _
  generalize mm_push h (t_N 2) (.inl (2, t_df 2)) = h1 at R1 c1 s1 ⊢
  generalize h.1 = a at fr c1 s1 ⊢
  refine x_run 1 (pc' := 37) (lv' := [(1, .int (nI (pa P))), (0, .ref (X.1 0))]) (st' := [.ref a, .ref a, .int (nI (pa P)), .ref (X.1 2)]) rfl ?_
  refine x_wr0 (A := IA u v X P M z a) (k' := 46) (as := [.ref a]) (rest := [.ref a, .int (nI (pa P)), .ref (X.1 2)]) (x_isI (np := 0) rfl rfl rfl rfl rfl) (c_initA R1 fr c1 s1) (fun h2 o => ?_)
  obtain ⟨b, c, R2, fb, fc, nab, nac, nbc, sa, sb, sc, ga, gb, gc⟩ := o
  have n02 : X.1 0 ≠ X.1 2 := fun e => by have := R2.2.1 0 2 (Or.inl (by omega)) (Or.inl (by omega)) e; omega
  refine x_aast4 (j := pa P) rfl R2.c2 ga (mm_idx_nI (by omega) (by omega)) ?_
  refine x_run 2 (pc' := 43) (lv' := [(1, .int (nI (pa P))), (0, .ref (X.1 0))]) (st' := [.ref (X.1 0), .ref (X.1 0)]) rfl ?_
  refine x_get (v := .int (nI (pa P))) rfl rfl ((mm_upd_ne _ _ n02).trans R2.c0) rfl ?_
  refine x_run 2 (pc' := 48) (lv' := [(1, .int (nI (pa P))), (0, .ref (X.1 0))]) (st' := [.int (nI (pa P) + 1), .ref (X.1 0)]) rfl ?_
  rw [nI_1]
  refine x_put rfl rfl ((mm_upd_ne _ _ n02).trans R2.c0) rfl ?_
  refine gen_h (A := Rep u v (xB X (pa P) a b c) (p_asset P) M z) (R2.addAsset h0 hn hz fr fb fc nab nac nbc sa sb sc ga gb gc) (fun h R => ?_)
  refine x_run 1 (pc' := 52) (lv' := [(1, .int (nI (pa P))), (0, .ref (X.1 0))]) (st' := [.int (nI (pa P))]) rfl ?_
  refine x_ret (v := some (.int (nI (pa P)))) rfl rfl rfl ⟨rfl, _, R, ?_, fun t ht => xB_ne (by omega) (by omega) (by omega)⟩
  show (0, X.2.2) = X.2
  rw [← h0]
end MAKE5
