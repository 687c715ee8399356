/-! FACTS of the tables -/
def mm_ow : Cond → Bool
  | .declares _ => true
  | .castable _ _ => true
  | .arrayOver (.object _) => true
  | .stringRef _ _ _ => true
  | w => goodWord w
def tb_Ts : List Cond := lw_tbl.filter mm_ow
theorem tb_inL {i : Nat} {w : Cond} (h : lw_tbl[i]? = some w) (hw : mm_ow w = true) : w ∈ tb_Ts := List.mem_filter.mpr ⟨List.mem_of_getElem? h, hw⟩
theorem tb_in {i : Nat} {w : Cond} (h : tables_1[i]? = some w) (hw : mm_ow w = true) : w ∈ tb_Ts := List.mem_filter.mpr ⟨List.mem_append_right _ (List.mem_of_getElem? h), hw⟩
theorem mm_move {w : Cond} (hw : mm_ow w = true) {A A' : Array Value} {s U : State} (hW : s.WarmedH U.vm) (h : w.before A s = true) : w.before A' U = true := by
  unfold mm_ow at hw
  split at hw
  · exact va_tabs rfl (rfl : (s.setVm U.vm).vm = U.vm) (by rw [Cond.declares_setVm hW.alike]; exact h)
  · exact va_tabs rfl (rfl : (s.setVm U.vm).vm = U.vm) (by rw [Cond.castable_setVm hW.alike]; exact h)
  · exact (va_AO.of h |>.moved hW.alike).use
  · have h1 := Cond.stringRef_warmed hW h
    simp only [Cond.before, Cond.holds, Cond.value, State.names, State.poolOf?, State.resolvedAt?] at h1 ⊢
    exact h1
  · exact word_at hW (good_of_word hw) h
def tb_nc : List (String × String) := [("java/lang/IllegalArgumentException", "java/lang/IllegalStateException"), ("java/lang/IllegalArgumentException", "java/lang/IndexOutOfBoundsException"), ("java/lang/IllegalArgumentException", "java/lang/UnsupportedOperationException"), ("java/lang/IllegalStateException", "java/lang/IllegalArgumentException"), ("java/lang/IllegalStateException", "java/lang/IndexOutOfBoundsException"), ("java/lang/IllegalStateException", "java/lang/UnsupportedOperationException"), ("java/lang/IndexOutOfBoundsException", "java/lang/IllegalArgumentException"), ("java/lang/IndexOutOfBoundsException", "java/lang/IllegalStateException"), ("java/lang/IndexOutOfBoundsException", "java/lang/UnsupportedOperationException"), ("java/lang/UnsupportedOperationException", "java/lang/IllegalArgumentException"), ("java/lang/UnsupportedOperationException", "java/lang/IllegalStateException"), ("java/lang/UnsupportedOperationException", "java/lang/IndexOutOfBoundsException")]
def mm_Wd (U : State) : Prop := (∀ w ∈ tb_Ts, ∀ A : Array Value, w.before A U = true) ∧ ∀ q ∈ tb_nc, va_Nc q.1 q.2 U
theorem mm_Wd.moved {s U : State} (hW : s.WarmedH U.vm) (h : mm_Wd s) : mm_Wd U := ⟨fun w hw _ => mm_move (List.mem_filter.mp hw).2 hW (h.1 w hw #[]), fun q hq => (h.2 q hq).moved hW.alike⟩
theorem tb_on1 : ∀ k, k < 111 → (t_y k).cls = t_on (t_o k) := by decide +kernel
theorem tb_on (k : Nat) : (t_y k).cls = t_on (t_o k) := by
  by_cases hk : k < 111
  · exact tb_on1 k hk
  · unfold t_y t_o
    rw [List.getD_eq_getElem?_getD, List.getD_eq_getElem?_getD, List.getElem?_eq_none (by show 110 ≤ k; omega), List.getElem?_eq_none (by show 111 ≤ k; omega)]
    rfl
theorem mm_fl_mem : ∀ (L : List (Nat × Nat × Nat × Nat × Nat)) (o i c j : Nat), mm_fl L o i = some (c, j) → ∃ p, (o, i, c, j, p) ∈ L
  | [], o, i, c, j, h => by cases h
  | (o1, i1, c1, j1, p1) :: r, o, i, c, j, h => by
    unfold mm_fl at h
    cases hb : (Nat.beq o1 o && Nat.beq i1 i) with
    | true =>
      rw [hb] at h
      rw [Bool.and_eq_true] at hb
      have e1 := Nat.eq_of_beq_eq_true hb.1
      have e2 := Nat.eq_of_beq_eq_true hb.2
      subst e1; subst e2
      cases h
      exact ⟨p1, List.mem_cons_self⟩
    | false =>
      rw [hb] at h
      obtain ⟨p, hp⟩ := mm_fl_mem r o i c j h
      exact ⟨p, List.mem_cons_of_mem _ hp⟩
def mm_fck (e : Nat × Nat × Nat × Nat × Nat) : Bool := match t_cl[e.2.2.1]? with
  | some q => decide (e.2.2.2.1 < q.2.2) && decide (tables_1[e.2.2.2.2]? = some (Cond.fieldLink (t_on e.1) e.2.1 (q.2.1 e.2.2.2.1).1 (q.2.1 e.2.2.2.1).2.1 (q.2.1 e.2.2.2.1).2.2.1))
  | none => false
theorem tb_fck : ∀ e ∈ t_fldL, mm_fck e = true := by decide +kernel
theorem tb_fld {o idx ci j : Nat} (h : t_fld o idx = some (ci, j)) : ∃ C T N, t_cl[ci]? = some (C, T, N) ∧ j < N ∧ Cond.fieldLink (t_on o) idx (T j).1 (T j).2.1 (T j).2.2.1 ∈ tb_Ts := by
  obtain ⟨p, hp⟩ := mm_fl_mem _ _ _ _ _ h
  have h1 := tb_fck _ hp
  unfold mm_fck at h1
  dsimp only at h1
  cases hc : t_cl[ci]? with
  | none => rw [hc] at h1; cases h1
  | some q =>
    rw [hc] at h1
    obtain ⟨C, T, N⟩ := q
    simp only [Bool.and_eq_true, decide_eq_true_eq] at h1
    exact ⟨C, T, N, rfl, h1.1, tb_in h1.2 rfl⟩
theorem tb_l0 : ∀ k, k < 10 → tables_1[([61, 63, 65, 67, 69, 71, 73, 75, 77, 79] : List Nat).getD k 0]? = some (u_lay "TrusteeDesk" F_0 k) ∧ mm_ow (u_lay "TrusteeDesk" F_0 k) = true := by decide +kernel
theorem tb_w0 : ∀ w ∈ u_ws "TrusteeDesk" F_0 10, w ∈ tb_Ts := by
  intro w hw
  obtain ⟨k, hk, rfl⟩ := List.mem_map.mp hw
  obtain ⟨h1, h2⟩ := tb_l0 k (List.mem_range.mp hk)
  exact tb_in h1 h2
theorem tb_t0 : ∀ k, k < 10 → parseFieldDescriptor (F_0 k).2.2.1 = some (t_ct 0 k) := by decide +kernel
theorem tb_n0 : ∀ a, a < 10 → ∀ b, b < 10 → a ≠ b → (F_0 a).2.1 ≠ (F_0 b).2.1 := by decide +kernel
theorem tb_d0 : ∀ j, j < 10 → defaultValue (t_ct 0 j) = vp_V (t_df 0) j := by decide +kernel
theorem tb_f0 : ∀ j, j < 10 → t_fin 0 j = (F_0 j).2.2.2 := by decide +kernel
theorem tb_g0 : ∀ j, j < 10 → (F_0 j).1 = "TrusteeDesk" := by decide +kernel
theorem tb_l1 : ∀ k, k < 9 → tables_1[([250, 252, 254, 256, 258, 260, 262, 264, 266] : List Nat).getD k 0]? = some (u_lay "TrusteeDesk$Claim" F_1 k) ∧ mm_ow (u_lay "TrusteeDesk$Claim" F_1 k) = true := by decide +kernel
theorem tb_w1 : ∀ w ∈ u_ws "TrusteeDesk$Claim" F_1 9, w ∈ tb_Ts := by
  intro w hw
  obtain ⟨k, hk, rfl⟩ := List.mem_map.mp hw
  obtain ⟨h1, h2⟩ := tb_l1 k (List.mem_range.mp hk)
  exact tb_in h1 h2
theorem tb_t1 : ∀ k, k < 9 → parseFieldDescriptor (F_1 k).2.2.1 = some (t_ct 1 k) := by decide +kernel
theorem tb_n1 : ∀ a, a < 9 → ∀ b, b < 9 → a ≠ b → (F_1 a).2.1 ≠ (F_1 b).2.1 := by decide +kernel
theorem tb_d1 : ∀ j, j < 9 → defaultValue (t_ct 1 j) = vp_V (t_df 1) j := by decide +kernel
theorem tb_f1 : ∀ j, j < 9 → t_fin 1 j = (F_1 j).2.2.2 := by decide +kernel
theorem tb_g1 : ∀ j, j < 9 → (F_1 j).1 = "TrusteeDesk$Claim" := by decide +kernel
theorem tb_l2 : ∀ k, k < 4 → tables_1[([323, 325, 327, 329] : List Nat).getD k 0]? = some (u_lay "TrusteeDesk$Asset" F_2 k) ∧ mm_ow (u_lay "TrusteeDesk$Asset" F_2 k) = true := by decide +kernel
theorem tb_w2 : ∀ w ∈ u_ws "TrusteeDesk$Asset" F_2 4, w ∈ tb_Ts := by
  intro w hw
  obtain ⟨k, hk, rfl⟩ := List.mem_map.mp hw
  obtain ⟨h1, h2⟩ := tb_l2 k (List.mem_range.mp hk)
  exact tb_in h1 h2
theorem tb_t2 : ∀ k, k < 4 → parseFieldDescriptor (F_2 k).2.2.1 = some (t_ct 2 k) := by decide +kernel
theorem tb_n2 : ∀ a, a < 4 → ∀ b, b < 4 → a ≠ b → (F_2 a).2.1 ≠ (F_2 b).2.1 := by decide +kernel
theorem tb_d2 : ∀ j, j < 4 → defaultValue (t_ct 2 j) = vp_V (t_df 2) j := by decide +kernel
theorem tb_f2 : ∀ j, j < 4 → t_fin 2 j = (F_2 j).2.2.2 := by decide +kernel
theorem tb_g2 : ∀ j, j < 4 → (F_2 j).1 = "TrusteeDesk$Asset" := by decide +kernel
theorem tb_l3 : ∀ k, k < 4 → tables_1[([40, 42, 44, 46] : List Nat).getD k 0]? = some (u_lay "TrusteeDesk$Journal" F_3 k) ∧ mm_ow (u_lay "TrusteeDesk$Journal" F_3 k) = true := by decide +kernel
theorem tb_w3 : ∀ w ∈ u_ws "TrusteeDesk$Journal" F_3 4, w ∈ tb_Ts := by
  intro w hw
  obtain ⟨k, hk, rfl⟩ := List.mem_map.mp hw
  obtain ⟨h1, h2⟩ := tb_l3 k (List.mem_range.mp hk)
  exact tb_in h1 h2
theorem tb_t3 : ∀ k, k < 4 → parseFieldDescriptor (F_3 k).2.2.1 = some (t_ct 3 k) := by decide +kernel
theorem tb_n3 : ∀ a, a < 4 → ∀ b, b < 4 → a ≠ b → (F_3 a).2.1 ≠ (F_3 b).2.1 := by decide +kernel
theorem tb_d3 : ∀ j, j < 4 → defaultValue (t_ct 3 j) = vp_V (t_df 3) j := by decide +kernel
theorem tb_f3 : ∀ j, j < 4 → t_fin 3 j = (F_3 j).2.2.2 := by decide +kernel
theorem tb_g3 : ∀ j, j < 4 → (F_3 j).1 = "TrusteeDesk$Journal" := by decide +kernel
theorem tb_l4 : ∀ k, k < 26 → tables_1[([567, 569, 571, 573, 575, 577, 579, 581, 583, 585, 587, 589, 591, 593, 595, 597, 599, 601, 603, 605, 607, 609, 611, 613, 615, 617] : List Nat).getD k 0]? = some (u_lay "TrusteeDeskModel" F_4 k) ∧ mm_ow (u_lay "TrusteeDeskModel" F_4 k) = true := by decide +kernel
theorem tb_w4 : ∀ w ∈ u_ws "TrusteeDeskModel" F_4 26, w ∈ tb_Ts := by
  intro w hw
  obtain ⟨k, hk, rfl⟩ := List.mem_map.mp hw
  obtain ⟨h1, h2⟩ := tb_l4 k (List.mem_range.mp hk)
  exact tb_in h1 h2
theorem tb_t4 : ∀ k, k < 26 → parseFieldDescriptor (F_4 k).2.2.1 = some (t_ct 4 k) := by decide +kernel
theorem tb_n4 : ∀ a, a < 26 → ∀ b, b < 26 → a ≠ b → (F_4 a).2.1 ≠ (F_4 b).2.1 := by decide +kernel
theorem tb_d4 : ∀ j, j < 26 → defaultValue (t_ct 4 j) = vp_V (t_df 4) j := by decide +kernel
theorem tb_f4 : ∀ j, j < 26 → t_fin 4 j = (F_4 j).2.2.2 := by decide +kernel
theorem tb_g4 : ∀ j, j < 26 → (F_4 j).1 = "TrusteeDeskModel" := by decide +kernel
theorem tb_cl {ci : Nat} {C : String} {T : u_T} {N : Nat} (h : t_cl[ci]? = some (C, T, N)) : (∀ w ∈ u_ws C T N, w ∈ tb_Ts) ∧ (∀ k, k < N → parseFieldDescriptor (T k).2.2.1 = some (t_ct ci k)) ∧ (∀ a, a < N → ∀ b, b < N → a ≠ b → (T a).2.1 ≠ (T b).2.1) ∧ ∀ j, j < N → defaultValue (t_ct ci j) = vp_V (t_df ci) j := by
  match ci, h with
  | 0, h => cases (show some ("TrusteeDesk", F_0, 10) = some (C, T, N) from h); exact ⟨tb_w0, tb_t0, tb_n0, tb_d0⟩
  | 1, h => cases (show some ("TrusteeDesk$Claim", F_1, 9) = some (C, T, N) from h); exact ⟨tb_w1, tb_t1, tb_n1, tb_d1⟩
  | 2, h => cases (show some ("TrusteeDesk$Asset", F_2, 4) = some (C, T, N) from h); exact ⟨tb_w2, tb_t2, tb_n2, tb_d2⟩
  | 3, h => cases (show some ("TrusteeDesk$Journal", F_3, 4) = some (C, T, N) from h); exact ⟨tb_w3, tb_t3, tb_n3, tb_d3⟩
  | 4, h => cases (show some ("TrusteeDeskModel", F_4, 26) = some (C, T, N) from h); exact ⟨tb_w4, tb_t4, tb_n4, tb_d4⟩
  | 5, h => cases (show some ("java/lang/IllegalArgumentException", F_x, 0) = some (C, T, N) from h); exact ⟨fun w hw => by simp [u_ws] at hw, fun k hk => by omega, fun a ha => by omega, fun j hj => by omega⟩
  | 6, h => cases (show some ("java/lang/IllegalStateException", F_x, 0) = some (C, T, N) from h); exact ⟨fun w hw => by simp [u_ws] at hw, fun k hk => by omega, fun a ha => by omega, fun j hj => by omega⟩
  | 7, h => cases (show some ("java/lang/IndexOutOfBoundsException", F_x, 0) = some (C, T, N) from h); exact ⟨fun w hw => by simp [u_ws] at hw, fun k hk => by omega, fun a ha => by omega, fun j hj => by omega⟩
  | 8, h => cases (show some ("java/lang/UnsupportedOperationException", F_x, 0) = some (C, T, N) from h); exact ⟨fun w hw => by simp [u_ws] at hw, fun k hk => by omega, fun a ha => by omega, fun j hj => by omega⟩
  | k + 9, h => simp [t_cl] at h
theorem tb_fin {ci : Nat} {C : String} {T : u_T} {N j : Nat} (h : t_cl[ci]? = some (C, T, N)) (hj : j < N) : t_fin ci j = (T j).2.2.2 := by
  match ci, h with
  | 0, h => cases (show some ("TrusteeDesk", F_0, 10) = some (C, T, N) from h); exact tb_f0 j hj
  | 1, h => cases (show some ("TrusteeDesk$Claim", F_1, 9) = some (C, T, N) from h); exact tb_f1 j hj
  | 2, h => cases (show some ("TrusteeDesk$Asset", F_2, 4) = some (C, T, N) from h); exact tb_f2 j hj
  | 3, h => cases (show some ("TrusteeDesk$Journal", F_3, 4) = some (C, T, N) from h); exact tb_f3 j hj
  | 4, h => cases (show some ("TrusteeDeskModel", F_4, 26) = some (C, T, N) from h); exact tb_f4 j hj
  | 5, h => cases (show some ("java/lang/IllegalArgumentException", F_x, 0) = some (C, T, N) from h); omega
  | 6, h => cases (show some ("java/lang/IllegalStateException", F_x, 0) = some (C, T, N) from h); omega
  | 7, h => cases (show some ("java/lang/IndexOutOfBoundsException", F_x, 0) = some (C, T, N) from h); omega
  | 8, h => cases (show some ("java/lang/UnsupportedOperationException", F_x, 0) = some (C, T, N) from h); omega
  | k + 9, h => simp [t_cl] at h
theorem tb_ini {k ci : Nat} {C : String} {T : u_T} {N j : Nat} (h : t_cl[ci]? = some (C, T, N)) (hj : j < N) (hi : t_ini k ci = true) : (t_y k).name = "<init>" ∧ (T j).1 = t_on (t_o k) := by
  unfold t_ini at hi
  split at hi
  · cases (show some ("TrusteeDesk", F_0, 10) = some (C, T, N) from h); exact ⟨rfl, tb_g0 j hj⟩
  · cases (show some ("TrusteeDesk$Claim", F_1, 9) = some (C, T, N) from h); exact ⟨rfl, tb_g1 j hj⟩
  · cases (show some ("TrusteeDesk$Asset", F_2, 4) = some (C, T, N) from h); exact ⟨rfl, tb_g2 j hj⟩
  · cases (show some ("TrusteeDesk$Journal", F_3, 4) = some (C, T, N) from h); exact ⟨rfl, tb_g3 j hj⟩
  · cases (show some ("TrusteeDeskModel", F_4, 26) = some (C, T, N) from h); exact ⟨rfl, tb_g4 j hj⟩
  · cases hi
