section START
variable {B b nc ns nc' ns' n k d : Nat} {C : List mm_C} {c sc : mm_C} {h : mm_H}
/-- the cells from B on, and the script's at b; how much room is left -/
def HL (B : Nat) (C : List mm_C) (b : Nat) (sc : mm_C) (nc ns : Nat) (h : mm_H) : Prop := h.1 = B + C.length ∧ (∀ k c, C[k]? = some c → h.2.2 (B + k) = some c) ∧ h.2.2 b = some sc ∧ b < B ∧ nc ≤ h.2.1.1 ∧ ns ≤ h.2.1.2
theorem HL.push (H : HL B C b sc nc ns h) (h1 : nc' + 1 ≤ nc) (h2 : ns' + n ≤ ns) : HL B (C ++ [c]) b sc nc' ns' (mm_push h n c) := by
  obtain ⟨a1, a2, a3, a4, a5, a6⟩ := H
  refine ⟨?_, fun k x hk => ?_, ?_, a4, ?_, ?_⟩
  · show h.1 + 1 = _
    rw [a1, List.length_append]
    rfl
  · by_cases e : k < C.length
    · rw [List.getElem?_append_left e] at hk
      rw [mm_push_ne _ _ _ (by omega)]
      exact a2 k x hk
    · rw [List.getElem?_append_right (by omega)] at hk
      by_cases e2 : k = C.length
      · rw [e2, Nat.sub_self] at hk
        cases hk
        rw [e2, ← a1]
        exact mm_push_self _ _ _
      · rw [List.getElem?_eq_none (by simp; omega)] at hk
        cases hk
  · rw [mm_push_ne _ _ _ (by omega)]
    exact a3
  · show nc' ≤ h.2.1.1 - 1
    omega
  · show ns' ≤ h.2.1.2 - n
    omega
theorem HL.less (H : HL B C b sc nc ns h) (h1 : nc' ≤ nc) (h2 : ns' ≤ ns) : HL B C b sc nc' ns' h := ⟨H.1, H.2.1, H.2.2.1, H.2.2.2.1, Nat.le_trans h1 H.2.2.2.2.1, Nat.le_trans h2 H.2.2.2.2.2⟩
theorem HL.upd (H : HL B C b sc nc ns h) (hk : k < C.length) : HL B (C.set k c) b sc nc ns (mm_upd h (B + k) c) := by
  obtain ⟨a1, a2, a3, a4, a5, a6⟩ := H
  refine ⟨?_, fun q x hq => ?_, ?_, a4, a5, a6⟩
  · rw [List.length_set]; exact a1
  · by_cases e : q = k
    · subst e
      rw [List.getElem?_set_self hk] at hq
      cases hq
      exact mm_upd_self _ _ _
    · rw [List.getElem?_set_ne (Ne.symm e)] at hq
      rw [mm_upd_ne _ _ (by omega)]
      exact a2 q x hq
  · rw [mm_upd_ne _ _ (by omega)]
    exact a3
theorem HL.nok (H : HL B C b sc nc ns h) (h1 : 1 ≤ nc) (h2 : n ≤ ns) (h3 : n ≤ 60000000) : ¬ (nI n < 0 ∨ 60000000 < (nI n).toNatClampNeg ∨ h.2.1.1 < 1 ∨ h.2.1.2 < (nI n).toNatClampNeg) := by
  obtain ⟨a1, a2, a3, a4, a5, a6⟩ := H
  rw [nI_clamp (by omega)]
  intro e
  rcases e with e | e | e | e
  · exact nI_pos (by omega) e
  · omega
  · omega
  · omega
theorem HL.nob (H : HL B C b sc nc ns h) (h1 : 1 ≤ nc) (h2 : n ≤ ns) : (Nat.ble 1 h.2.1.1 && Nat.ble n h.2.1.2) = true := by
  obtain ⟨a1, a2, a3, a4, a5, a6⟩ := H
  rw [Nat.ble_eq_true_of_le (by omega), Nat.ble_eq_true_of_le (by omega)]
  rfl
def dI (n : Nat) : mm_C := .inr (0, n, fun _ => .int 0)
def dL (n : Nat) : mm_C := .inr (1, n, fun _ => .long 0)
def dB (n : Nat) : mm_C := .inr (2, n, fun _ => .int 0)
def dR (t n : Nat) : mm_C := .inr (t, n, fun _ => .null)
theorem i_50 {y0 y1 y2 y3 : mm_C} (H : HL B [y0, y1, y2, y3, .inl (3, t_df 3)] b sc (nc + 3) (ns + 9000) h) : Wx (d + 1) 50 0 (lv_args 0 [.ref (B + 4)]) [] h (fun r => r.1 = .inl none ∧ HL B [y0, y1, y2, y3, .inl (3, [.ref (B + 5), .ref (B + 6), .ref (B + 7), .int 0]), dI 3000, dI 3000, dL 3000] b sc nc ns r.2) := by
  show Wx _ _ 0 [(0, .ref (B + 4))] [] h _
  refine x_run 1 (pc' := 1) (lv' := [(0, .ref (B + 4))]) (st' := [.ref (B + 4)]) rfl ?_
  refine x_obj rfl rfl ?_
  refine x_run 2 (pc' := 8) (lv' := [(0, .ref (B + 4))]) (st' := [.int (nI 3000), .ref (B + 4)]) rfl ?_
  refine x_newa (t := 0) rfl rfl (H.nok (n := 3000) (by omega) (by omega) (by omega)) ?_
  rw [nI_clamp (show 3000 < 2 ^ 31 by omega), show h.1 = B + 5 from H.1]
  refine gen_h (A := HL B [y0, y1, y2, y3, .inl (3, [.null, .null, .null, .int 0]), dI 3000] b sc (nc + 2) (ns + 6000)) (H.push (by omega) (by omega)) (fun h H => ?_)
  refine x_put rfl rfl (H.2.1 4 _ rfl) rfl ?_
  refine gen_h (A := HL B [y0, y1, y2, y3, .inl (3, [.ref (B + 5), .null, .null, .int 0]), dI 3000] b sc (nc + 2) (ns + 6000)) (H.upd (k := 4) (by show 4 < 6; decide)) (fun h H => ?_)
  refine x_run 2 (pc' := 17) (lv' := [(0, .ref (B + 4))]) (st' := [.int (nI 3000), .ref (B + 4)]) rfl ?_
  refine x_newa (t := 0) rfl rfl (H.nok (n := 3000) (by omega) (by omega) (by omega)) ?_
  rw [nI_clamp (show 3000 < 2 ^ 31 by omega), show h.1 = B + 6 from H.1]
  refine gen_h (A := HL B [y0, y1, y2, y3, .inl (3, [.ref (B + 5), .null, .null, .int 0]), dI 3000, dI 3000] b sc (nc + 1) (ns + 3000)) (H.push (by omega) (by omega)) (fun h H => ?_)
  refine x_put rfl rfl (H.2.1 4 _ rfl) rfl ?_
  refine gen_h (A := HL B [y0, y1, y2, y3, .inl (3, [.ref (B + 5), .ref (B + 6), .null, .int 0]), dI 3000, dI 3000] b sc (nc + 1) (ns + 3000)) (H.upd (k := 4) (by show 4 < 7; decide)) (fun h H => ?_)
  refine x_run 2 (pc' := 26) (lv' := [(0, .ref (B + 4))]) (st' := [.int (nI 3000), .ref (B + 4)]) rfl ?_
  refine x_newa (t := 1) rfl rfl (H.nok (n := 3000) (by omega) (by omega) (by omega)) ?_
  rw [nI_clamp (show 3000 < 2 ^ 31 by omega), show h.1 = B + 7 from H.1]
  refine gen_h (A := HL B [y0, y1, y2, y3, .inl (3, [.ref (B + 5), .ref (B + 6), .null, .int 0]), dI 3000, dI 3000, dL 3000] b sc (nc + 0) (ns + 0)) (H.push (by omega) (by omega)) (fun h H => ?_)
  refine x_put rfl rfl (H.2.1 4 _ rfl) rfl ?_
  refine gen_h (A := HL B [y0, y1, y2, y3, .inl (3, [.ref (B + 5), .ref (B + 6), .ref (B + 7), .int 0]), dI 3000, dI 3000, dL 3000] b sc (nc + 0) (ns + 0)) (H.upd (k := 4) (by show 4 < 8; decide)) (fun h H => ?_)
  exact x_ret (v := none) rfl rfl rfl ⟨rfl, H⟩
theorem i_0 (H : HL B [.inl (0, t_df 0)] b sc (nc + 7) (ns + 9092) h) : Wx (d + 2) 0 0 (lv_args 0 [.ref (B + 0)]) [] h (fun r => r.1 = .inl none ∧ HL B [.inl (0, [.ref (B + 1), .int 0, .ref (B + 2), .int 0, .ref (B + 3), .ref (B + 4), .long 0, .long 0, .long 0, .int 0]), dR 3 60, dR 4 20, dI 8, .inl (3, [.ref (B + 5), .ref (B + 6), .ref (B + 7), .int 0]), dI 3000, dI 3000, dL 3000] b sc nc ns r.2) := by
  show Wx _ _ 0 [(0, .ref (B + 0))] [] h _
  refine x_run 1 (pc' := 1) (lv' := [(0, .ref (B + 0))]) (st' := [.ref (B + 0)]) rfl ?_
  refine x_obj rfl rfl ?_
  refine x_run 2 (pc' := 7) (lv' := [(0, .ref (B + 0))]) (st' := [.int (nI 60), .ref (B + 0)]) rfl ?_
  refine x_anew (t := 3) rfl rfl (H.nok (n := 60) (by omega) (by omega) (by omega)) ?_
  rw [nI_clamp (show 60 < 2 ^ 31 by omega), show h.1 = B + 1 from H.1]
  refine gen_h (A := HL B [.inl (0, [.null, .int 0, .null, .int 0, .null, .null, .long 0, .long 0, .long 0, .int 0]), dR 3 60] b sc (nc + 6) (ns + 9032)) (H.push (by omega) (by omega)) (fun h H => ?_)
  refine x_put rfl rfl (H.2.1 0 _ rfl) rfl ?_
  refine gen_h (A := HL B [.inl (0, [.ref (B + 1), .int 0, .null, .int 0, .null, .null, .long 0, .long 0, .long 0, .int 0]), dR 3 60] b sc (nc + 6) (ns + 9032)) (H.upd (k := 0) (by show 0 < 2; decide)) (fun h H => ?_)
  refine x_run 2 (pc' := 16) (lv' := [(0, .ref (B + 0))]) (st' := [.int (nI 20), .ref (B + 0)]) rfl ?_
  refine x_anew (t := 4) rfl rfl (H.nok (n := 20) (by omega) (by omega) (by omega)) ?_
  rw [nI_clamp (show 20 < 2 ^ 31 by omega), show h.1 = B + 2 from H.1]
  refine gen_h (A := HL B [.inl (0, [.ref (B + 1), .int 0, .null, .int 0, .null, .null, .long 0, .long 0, .long 0, .int 0]), dR 3 60, dR 4 20] b sc (nc + 5) (ns + 9012)) (H.push (by omega) (by omega)) (fun h H => ?_)
  refine x_put rfl rfl (H.2.1 0 _ rfl) rfl ?_
  refine gen_h (A := HL B [.inl (0, [.ref (B + 1), .int 0, .ref (B + 2), .int 0, .null, .null, .long 0, .long 0, .long 0, .int 0]), dR 3 60, dR 4 20] b sc (nc + 5) (ns + 9012)) (H.upd (k := 0) (by show 0 < 3; decide)) (fun h H => ?_)
  refine x_run 2 (pc' := 25) (lv' := [(0, .ref (B + 0))]) (st' := [.int (nI 8), .ref (B + 0)]) rfl ?_
  refine x_newa (t := 0) rfl rfl (H.nok (n := 8) (by omega) (by omega) (by omega)) ?_
  rw [nI_clamp (show 8 < 2 ^ 31 by omega), show h.1 = B + 3 from H.1]
  refine gen_h (A := HL B [.inl (0, [.ref (B + 1), .int 0, .ref (B + 2), .int 0, .null, .null, .long 0, .long 0, .long 0, .int 0]), dR 3 60, dR 4 20, dI 8] b sc (nc + 4) (ns + 9004)) (H.push (by omega) (by omega)) (fun h H => ?_)
  refine x_put rfl rfl (H.2.1 0 _ rfl) rfl ?_
  refine gen_h (A := HL B [.inl (0, [.ref (B + 1), .int 0, .ref (B + 2), .int 0, .ref (B + 3), .null, .long 0, .long 0, .long 0, .int 0]), dR 3 60, dR 4 20, dI 8] b sc (nc + 4) (ns + 9004)) (H.upd (k := 0) (by show 0 < 4; decide)) (fun h H => ?_)
  refine x_run 1 (pc' := 31) (lv' := [(0, .ref (B + 0))]) (st' := [.ref (B + 0)]) rfl ?_
  refine x_new (ci := 3) rfl rfl (H.nob (n := t_N 3) (by omega) (by show 4 ≤ _; omega)) ?_
  rw [show h.1 = B + 4 from H.1]
  refine gen_h (A := HL B [.inl (0, [.ref (B + 1), .int 0, .ref (B + 2), .int 0, .ref (B + 3), .null, .long 0, .long 0, .long 0, .int 0]), dR 3 60, dR 4 20, dI 8, .inl (3, t_df 3)] b sc (nc + 3) (ns + 9000)) (H.push (by omega) (by show _ + 4 ≤ _; omega)) (fun h H => ?_)
  refine x_run 1 (pc' := 35) (lv' := [(0, .ref (B + 0))]) (st' := [.ref (B + 4), .ref (B + 4), .ref (B + 0)]) rfl ?_
  refine x_wr0 (A := HL B [.inl (0, [.ref (B + 1), .int 0, .ref (B + 2), .int 0, .ref (B + 3), .null, .long 0, .long 0, .long 0, .int 0]), dR 3 60, dR 4 20, dI 8, .inl (3, [.ref (B + 5), .ref (B + 6), .ref (B + 7), .int 0]), dI 3000, dI 3000, dL 3000] b sc (nc + 0) (ns + 0)) (k' := 50) (as := [.ref (B + 4)]) (rest := [.ref (B + 4), .ref (B + 0)]) (x_isI (np := 0) rfl rfl rfl rfl rfl) (i_50 (nc := (nc + 0)) (ns := (ns + 0)) (H.less (by omega) (by omega))) (fun h H => ?_)
  refine x_put rfl rfl (H.2.1 0 _ rfl) rfl ?_
  refine gen_h (A := HL B [.inl (0, [.ref (B + 1), .int 0, .ref (B + 2), .int 0, .ref (B + 3), .ref (B + 4), .long 0, .long 0, .long 0, .int 0]), dR 3 60, dR 4 20, dI 8, .inl (3, [.ref (B + 5), .ref (B + 6), .ref (B + 7), .int 0]), dI 3000, dI 3000, dL 3000] b sc (nc + 0) (ns + 0)) (H.upd (k := 0) (by show 0 < 8; decide)) (fun h H => ?_)
  exact x_ret (v := none) rfl rfl rfl ⟨rfl, H⟩
theorem i_53 {y0 y1 y2 y3 y4 y5 y6 y7 : mm_C} (H : HL B [y0, y1, y2, y3, y4, y5, y6, y7, .inl (4, t_df 4)] b sc (nc + 18) (ns + 9808) h) : Wx (d + 1) 53 0 (lv_args 0 [.ref (B + 8)]) [] h (fun r => r.1 = .inl none ∧ HL B [y0, y1, y2, y3, y4, y5, y6, y7, .inl (4, [.int 0, .int 0, .int 0, .ref (B + 9), .ref (B + 10), .ref (B + 11), .ref (B + 12), .ref (B + 13), .ref (B + 14), .ref (B + 15), .int 0, .ref (B + 16), .ref (B + 17), .ref (B + 18), .ref (B + 19), .ref (B + 20), .long 0, .long 0, .long 0, .int 0, .ref (B + 21), .ref (B + 22), .ref (B + 23), .ref (B + 24), .ref (B + 25), .ref (B + 26)]), dI 60, dL 60, dL 60, dL 60, dL 60, dL 60, dI 60, dB 20, dI 20, dI 80, dL 80, dI 8, dI 3000, dI 3000, dL 3000, dL 60, dL 60, dL 60] b sc nc ns r.2) := by
  show Wx _ _ 0 [(0, .ref (B + 8))] [] h _
  refine x_run 1 (pc' := 1) (lv' := [(0, .ref (B + 8))]) (st' := [.ref (B + 8)]) rfl ?_
  refine x_obj rfl rfl ?_
  refine x_run 2 (pc' := 7) (lv' := [(0, .ref (B + 8))]) (st' := [.int (nI 60), .ref (B + 8)]) rfl ?_
  refine x_newa (t := 0) rfl rfl (H.nok (n := 60) (by omega) (by omega) (by omega)) ?_
  rw [nI_clamp (show 60 < 2 ^ 31 by omega), show h.1 = B + 9 from H.1]
  refine gen_h (A := HL B [y0, y1, y2, y3, y4, y5, y6, y7, .inl (4, [.int 0, .int 0, .int 0, .null, .null, .null, .null, .null, .null, .null, .int 0, .null, .null, .null, .null, .null, .long 0, .long 0, .long 0, .int 0, .null, .null, .null, .null, .null, .null]), dI 60] b sc (nc + 17) (ns + 9748)) (H.push (by omega) (by omega)) (fun h H => ?_)
  refine x_put rfl rfl (H.2.1 8 _ rfl) rfl ?_
  refine gen_h (A := HL B [y0, y1, y2, y3, y4, y5, y6, y7, .inl (4, [.int 0, .int 0, .int 0, .ref (B + 9), .null, .null, .null, .null, .null, .null, .int 0, .null, .null, .null, .null, .null, .long 0, .long 0, .long 0, .int 0, .null, .null, .null, .null, .null, .null]), dI 60] b sc (nc + 17) (ns + 9748)) (H.upd (k := 8) (by show 8 < 10; decide)) (fun h H => ?_)
  refine x_run 2 (pc' := 15) (lv' := [(0, .ref (B + 8))]) (st' := [.int (nI 60), .ref (B + 8)]) rfl ?_
  refine x_newa (t := 1) rfl rfl (H.nok (n := 60) (by omega) (by omega) (by omega)) ?_
  rw [nI_clamp (show 60 < 2 ^ 31 by omega), show h.1 = B + 10 from H.1]
  refine gen_h (A := HL B [y0, y1, y2, y3, y4, y5, y6, y7, .inl (4, [.int 0, .int 0, .int 0, .ref (B + 9), .null, .null, .null, .null, .null, .null, .int 0, .null, .null, .null, .null, .null, .long 0, .long 0, .long 0, .int 0, .null, .null, .null, .null, .null, .null]), dI 60, dL 60] b sc (nc + 16) (ns + 9688)) (H.push (by omega) (by omega)) (fun h H => ?_)
  refine x_put rfl rfl (H.2.1 8 _ rfl) rfl ?_
  refine gen_h (A := HL B [y0, y1, y2, y3, y4, y5, y6, y7, .inl (4, [.int 0, .int 0, .int 0, .ref (B + 9), .ref (B + 10), .null, .null, .null, .null, .null, .int 0, .null, .null, .null, .null, .null, .long 0, .long 0, .long 0, .int 0, .null, .null, .null, .null, .null, .null]), dI 60, dL 60] b sc (nc + 16) (ns + 9688)) (H.upd (k := 8) (by show 8 < 11; decide)) (fun h H => ?_)
  refine x_run 2 (pc' := 23) (lv' := [(0, .ref (B + 8))]) (st' := [.int (nI 60), .ref (B + 8)]) rfl ?_
  refine x_newa (t := 1) rfl rfl (H.nok (n := 60) (by omega) (by omega) (by omega)) ?_
  rw [nI_clamp (show 60 < 2 ^ 31 by omega), show h.1 = B + 11 from H.1]
  refine gen_h (A := HL B [y0, y1, y2, y3, y4, y5, y6, y7, .inl (4, [.int 0, .int 0, .int 0, .ref (B + 9), .ref (B + 10), .null, .null, .null, .null, .null, .int 0, .null, .null, .null, .null, .null, .long 0, .long 0, .long 0, .int 0, .null, .null, .null, .null, .null, .null]), dI 60, dL 60, dL 60] b sc (nc + 15) (ns + 9628)) (H.push (by omega) (by omega)) (fun h H => ?_)
  refine x_put rfl rfl (H.2.1 8 _ rfl) rfl ?_
  refine gen_h (A := HL B [y0, y1, y2, y3, y4, y5, y6, y7, .inl (4, [.int 0, .int 0, .int 0, .ref (B + 9), .ref (B + 10), .ref (B + 11), .null, .null, .null, .null, .int 0, .null, .null, .null, .null, .null, .long 0, .long 0, .long 0, .int 0, .null, .null, .null, .null, .null, .null]), dI 60, dL 60, dL 60] b sc (nc + 15) (ns + 9628)) (H.upd (k := 8) (by show 8 < 12; decide)) (fun h H => ?_)
  refine x_run 2 (pc' := 31) (lv' := [(0, .ref (B + 8))]) (st' := [.int (nI 60), .ref (B + 8)]) rfl ?_
  refine x_newa (t := 1) rfl rfl (H.nok (n := 60) (by omega) (by omega) (by omega)) ?_
  rw [nI_clamp (show 60 < 2 ^ 31 by omega), show h.1 = B + 12 from H.1]
  refine gen_h (A := HL B [y0, y1, y2, y3, y4, y5, y6, y7, .inl (4, [.int 0, .int 0, .int 0, .ref (B + 9), .ref (B + 10), .ref (B + 11), .null, .null, .null, .null, .int 0, .null, .null, .null, .null, .null, .long 0, .long 0, .long 0, .int 0, .null, .null, .null, .null, .null, .null]), dI 60, dL 60, dL 60, dL 60] b sc (nc + 14) (ns + 9568)) (H.push (by omega) (by omega)) (fun h H => ?_)
  refine x_put rfl rfl (H.2.1 8 _ rfl) rfl ?_
  refine gen_h (A := HL B [y0, y1, y2, y3, y4, y5, y6, y7, .inl (4, [.int 0, .int 0, .int 0, .ref (B + 9), .ref (B + 10), .ref (B + 11), .ref (B + 12), .null, .null, .null, .int 0, .null, .null, .null, .null, .null, .long 0, .long 0, .long 0, .int 0, .null, .null, .null, .null, .null, .null]), dI 60, dL 60, dL 60, dL 60] b sc (nc + 14) (ns + 9568)) (H.upd (k := 8) (by show 8 < 13; decide)) (fun h H => ?_)
  refine x_run 2 (pc' := 39) (lv' := [(0, .ref (B + 8))]) (st' := [.int (nI 60), .ref (B + 8)]) rfl ?_
  refine x_newa (t := 1) rfl rfl (H.nok (n := 60) (by omega) (by omega) (by omega)) ?_
  rw [nI_clamp (show 60 < 2 ^ 31 by omega), show h.1 = B + 13 from H.1]
  refine gen_h (A := HL B [y0, y1, y2, y3, y4, y5, y6, y7, .inl (4, [.int 0, .int 0, .int 0, .ref (B + 9), .ref (B + 10), .ref (B + 11), .ref (B + 12), .null, .null, .null, .int 0, .null, .null, .null, .null, .null, .long 0, .long 0, .long 0, .int 0, .null, .null, .null, .null, .null, .null]), dI 60, dL 60, dL 60, dL 60, dL 60] b sc (nc + 13) (ns + 9508)) (H.push (by omega) (by omega)) (fun h H => ?_)
  refine x_put rfl rfl (H.2.1 8 _ rfl) rfl ?_
  refine gen_h (A := HL B [y0, y1, y2, y3, y4, y5, y6, y7, .inl (4, [.int 0, .int 0, .int 0, .ref (B + 9), .ref (B + 10), .ref (B + 11), .ref (B + 12), .ref (B + 13), .null, .null, .int 0, .null, .null, .null, .null, .null, .long 0, .long 0, .long 0, .int 0, .null, .null, .null, .null, .null, .null]), dI 60, dL 60, dL 60, dL 60, dL 60] b sc (nc + 13) (ns + 9508)) (H.upd (k := 8) (by show 8 < 14; decide)) (fun h H => ?_)
  refine x_run 2 (pc' := 47) (lv' := [(0, .ref (B + 8))]) (st' := [.int (nI 60), .ref (B + 8)]) rfl ?_
  refine x_newa (t := 1) rfl rfl (H.nok (n := 60) (by omega) (by omega) (by omega)) ?_
  rw [nI_clamp (show 60 < 2 ^ 31 by omega), show h.1 = B + 14 from H.1]
  refine gen_h (A := HL B [y0, y1, y2, y3, y4, y5, y6, y7, .inl (4, [.int 0, .int 0, .int 0, .ref (B + 9), .ref (B + 10), .ref (B + 11), .ref (B + 12), .ref (B + 13), .null, .null, .int 0, .null, .null, .null, .null, .null, .long 0, .long 0, .long 0, .int 0, .null, .null, .null, .null, .null, .null]), dI 60, dL 60, dL 60, dL 60, dL 60, dL 60] b sc (nc + 12) (ns + 9448)) (H.push (by omega) (by omega)) (fun h H => ?_)
  refine x_put rfl rfl (H.2.1 8 _ rfl) rfl ?_
  refine gen_h (A := HL B [y0, y1, y2, y3, y4, y5, y6, y7, .inl (4, [.int 0, .int 0, .int 0, .ref (B + 9), .ref (B + 10), .ref (B + 11), .ref (B + 12), .ref (B + 13), .ref (B + 14), .null, .int 0, .null, .null, .null, .null, .null, .long 0, .long 0, .long 0, .int 0, .null, .null, .null, .null, .null, .null]), dI 60, dL 60, dL 60, dL 60, dL 60, dL 60] b sc (nc + 12) (ns + 9448)) (H.upd (k := 8) (by show 8 < 15; decide)) (fun h H => ?_)
  refine x_run 2 (pc' := 55) (lv' := [(0, .ref (B + 8))]) (st' := [.int (nI 60), .ref (B + 8)]) rfl ?_
  refine x_newa (t := 0) rfl rfl (H.nok (n := 60) (by omega) (by omega) (by omega)) ?_
  rw [nI_clamp (show 60 < 2 ^ 31 by omega), show h.1 = B + 15 from H.1]
  refine gen_h (A := HL B [y0, y1, y2, y3, y4, y5, y6, y7, .inl (4, [.int 0, .int 0, .int 0, .ref (B + 9), .ref (B + 10), .ref (B + 11), .ref (B + 12), .ref (B + 13), .ref (B + 14), .null, .int 0, .null, .null, .null, .null, .null, .long 0, .long 0, .long 0, .int 0, .null, .null, .null, .null, .null, .null]), dI 60, dL 60, dL 60, dL 60, dL 60, dL 60, dI 60] b sc (nc + 11) (ns + 9388)) (H.push (by omega) (by omega)) (fun h H => ?_)
  refine x_put rfl rfl (H.2.1 8 _ rfl) rfl ?_
  refine gen_h (A := HL B [y0, y1, y2, y3, y4, y5, y6, y7, .inl (4, [.int 0, .int 0, .int 0, .ref (B + 9), .ref (B + 10), .ref (B + 11), .ref (B + 12), .ref (B + 13), .ref (B + 14), .ref (B + 15), .int 0, .null, .null, .null, .null, .null, .long 0, .long 0, .long 0, .int 0, .null, .null, .null, .null, .null, .null]), dI 60, dL 60, dL 60, dL 60, dL 60, dL 60, dI 60] b sc (nc + 11) (ns + 9388)) (H.upd (k := 8) (by show 8 < 16; decide)) (fun h H => ?_)
  refine x_run 2 (pc' := 63) (lv' := [(0, .ref (B + 8))]) (st' := [.int (nI 20), .ref (B + 8)]) rfl ?_
  refine x_newa (t := 2) rfl rfl (H.nok (n := 20) (by omega) (by omega) (by omega)) ?_
  rw [nI_clamp (show 20 < 2 ^ 31 by omega), show h.1 = B + 16 from H.1]
  refine gen_h (A := HL B [y0, y1, y2, y3, y4, y5, y6, y7, .inl (4, [.int 0, .int 0, .int 0, .ref (B + 9), .ref (B + 10), .ref (B + 11), .ref (B + 12), .ref (B + 13), .ref (B + 14), .ref (B + 15), .int 0, .null, .null, .null, .null, .null, .long 0, .long 0, .long 0, .int 0, .null, .null, .null, .null, .null, .null]), dI 60, dL 60, dL 60, dL 60, dL 60, dL 60, dI 60, dB 20] b sc (nc + 10) (ns + 9368)) (H.push (by omega) (by omega)) (fun h H => ?_)
  refine x_put rfl rfl (H.2.1 8 _ rfl) rfl ?_
  refine gen_h (A := HL B [y0, y1, y2, y3, y4, y5, y6, y7, .inl (4, [.int 0, .int 0, .int 0, .ref (B + 9), .ref (B + 10), .ref (B + 11), .ref (B + 12), .ref (B + 13), .ref (B + 14), .ref (B + 15), .int 0, .ref (B + 16), .null, .null, .null, .null, .long 0, .long 0, .long 0, .int 0, .null, .null, .null, .null, .null, .null]), dI 60, dL 60, dL 60, dL 60, dL 60, dL 60, dI 60, dB 20] b sc (nc + 10) (ns + 9368)) (H.upd (k := 8) (by show 8 < 17; decide)) (fun h H => ?_)
  refine x_run 2 (pc' := 71) (lv' := [(0, .ref (B + 8))]) (st' := [.int (nI 20), .ref (B + 8)]) rfl ?_
  refine x_newa (t := 0) rfl rfl (H.nok (n := 20) (by omega) (by omega) (by omega)) ?_
  rw [nI_clamp (show 20 < 2 ^ 31 by omega), show h.1 = B + 17 from H.1]
  refine gen_h (A := HL B [y0, y1, y2, y3, y4, y5, y6, y7, .inl (4, [.int 0, .int 0, .int 0, .ref (B + 9), .ref (B + 10), .ref (B + 11), .ref (B + 12), .ref (B + 13), .ref (B + 14), .ref (B + 15), .int 0, .ref (B + 16), .null, .null, .null, .null, .long 0, .long 0, .long 0, .int 0, .null, .null, .null, .null, .null, .null]), dI 60, dL 60, dL 60, dL 60, dL 60, dL 60, dI 60, dB 20, dI 20] b sc (nc + 9) (ns + 9348)) (H.push (by omega) (by omega)) (fun h H => ?_)
  refine x_put rfl rfl (H.2.1 8 _ rfl) rfl ?_
  refine gen_h (A := HL B [y0, y1, y2, y3, y4, y5, y6, y7, .inl (4, [.int 0, .int 0, .int 0, .ref (B + 9), .ref (B + 10), .ref (B + 11), .ref (B + 12), .ref (B + 13), .ref (B + 14), .ref (B + 15), .int 0, .ref (B + 16), .ref (B + 17), .null, .null, .null, .long 0, .long 0, .long 0, .int 0, .null, .null, .null, .null, .null, .null]), dI 60, dL 60, dL 60, dL 60, dL 60, dL 60, dI 60, dB 20, dI 20] b sc (nc + 9) (ns + 9348)) (H.upd (k := 8) (by show 8 < 18; decide)) (fun h H => ?_)
  refine x_run 2 (pc' := 79) (lv' := [(0, .ref (B + 8))]) (st' := [.int (nI 80), .ref (B + 8)]) rfl ?_
  refine x_newa (t := 0) rfl rfl (H.nok (n := 80) (by omega) (by omega) (by omega)) ?_
  rw [nI_clamp (show 80 < 2 ^ 31 by omega), show h.1 = B + 18 from H.1]
  refine gen_h (A := HL B [y0, y1, y2, y3, y4, y5, y6, y7, .inl (4, [.int 0, .int 0, .int 0, .ref (B + 9), .ref (B + 10), .ref (B + 11), .ref (B + 12), .ref (B + 13), .ref (B + 14), .ref (B + 15), .int 0, .ref (B + 16), .ref (B + 17), .null, .null, .null, .long 0, .long 0, .long 0, .int 0, .null, .null, .null, .null, .null, .null]), dI 60, dL 60, dL 60, dL 60, dL 60, dL 60, dI 60, dB 20, dI 20, dI 80] b sc (nc + 8) (ns + 9268)) (H.push (by omega) (by omega)) (fun h H => ?_)
  refine x_put rfl rfl (H.2.1 8 _ rfl) rfl ?_
  refine gen_h (A := HL B [y0, y1, y2, y3, y4, y5, y6, y7, .inl (4, [.int 0, .int 0, .int 0, .ref (B + 9), .ref (B + 10), .ref (B + 11), .ref (B + 12), .ref (B + 13), .ref (B + 14), .ref (B + 15), .int 0, .ref (B + 16), .ref (B + 17), .ref (B + 18), .null, .null, .long 0, .long 0, .long 0, .int 0, .null, .null, .null, .null, .null, .null]), dI 60, dL 60, dL 60, dL 60, dL 60, dL 60, dI 60, dB 20, dI 20, dI 80] b sc (nc + 8) (ns + 9268)) (H.upd (k := 8) (by show 8 < 19; decide)) (fun h H => ?_)
  refine x_run 2 (pc' := 87) (lv' := [(0, .ref (B + 8))]) (st' := [.int (nI 80), .ref (B + 8)]) rfl ?_
  refine x_newa (t := 1) rfl rfl (H.nok (n := 80) (by omega) (by omega) (by omega)) ?_
  rw [nI_clamp (show 80 < 2 ^ 31 by omega), show h.1 = B + 19 from H.1]
  refine gen_h (A := HL B [y0, y1, y2, y3, y4, y5, y6, y7, .inl (4, [.int 0, .int 0, .int 0, .ref (B + 9), .ref (B + 10), .ref (B + 11), .ref (B + 12), .ref (B + 13), .ref (B + 14), .ref (B + 15), .int 0, .ref (B + 16), .ref (B + 17), .ref (B + 18), .null, .null, .long 0, .long 0, .long 0, .int 0, .null, .null, .null, .null, .null, .null]), dI 60, dL 60, dL 60, dL 60, dL 60, dL 60, dI 60, dB 20, dI 20, dI 80, dL 80] b sc (nc + 7) (ns + 9188)) (H.push (by omega) (by omega)) (fun h H => ?_)
  refine x_put rfl rfl (H.2.1 8 _ rfl) rfl ?_
  refine gen_h (A := HL B [y0, y1, y2, y3, y4, y5, y6, y7, .inl (4, [.int 0, .int 0, .int 0, .ref (B + 9), .ref (B + 10), .ref (B + 11), .ref (B + 12), .ref (B + 13), .ref (B + 14), .ref (B + 15), .int 0, .ref (B + 16), .ref (B + 17), .ref (B + 18), .ref (B + 19), .null, .long 0, .long 0, .long 0, .int 0, .null, .null, .null, .null, .null, .null]), dI 60, dL 60, dL 60, dL 60, dL 60, dL 60, dI 60, dB 20, dI 20, dI 80, dL 80] b sc (nc + 7) (ns + 9188)) (H.upd (k := 8) (by show 8 < 20; decide)) (fun h H => ?_)
  refine x_run 2 (pc' := 95) (lv' := [(0, .ref (B + 8))]) (st' := [.int (nI 8), .ref (B + 8)]) rfl ?_
  refine x_newa (t := 0) rfl rfl (H.nok (n := 8) (by omega) (by omega) (by omega)) ?_
  rw [nI_clamp (show 8 < 2 ^ 31 by omega), show h.1 = B + 20 from H.1]
  refine gen_h (A := HL B [y0, y1, y2, y3, y4, y5, y6, y7, .inl (4, [.int 0, .int 0, .int 0, .ref (B + 9), .ref (B + 10), .ref (B + 11), .ref (B + 12), .ref (B + 13), .ref (B + 14), .ref (B + 15), .int 0, .ref (B + 16), .ref (B + 17), .ref (B + 18), .ref (B + 19), .null, .long 0, .long 0, .long 0, .int 0, .null, .null, .null, .null, .null, .null]), dI 60, dL 60, dL 60, dL 60, dL 60, dL 60, dI 60, dB 20, dI 20, dI 80, dL 80, dI 8] b sc (nc + 6) (ns + 9180)) (H.push (by omega) (by omega)) (fun h H => ?_)
  refine x_put rfl rfl (H.2.1 8 _ rfl) rfl ?_
  refine gen_h (A := HL B [y0, y1, y2, y3, y4, y5, y6, y7, .inl (4, [.int 0, .int 0, .int 0, .ref (B + 9), .ref (B + 10), .ref (B + 11), .ref (B + 12), .ref (B + 13), .ref (B + 14), .ref (B + 15), .int 0, .ref (B + 16), .ref (B + 17), .ref (B + 18), .ref (B + 19), .ref (B + 20), .long 0, .long 0, .long 0, .int 0, .null, .null, .null, .null, .null, .null]), dI 60, dL 60, dL 60, dL 60, dL 60, dL 60, dI 60, dB 20, dI 20, dI 80, dL 80, dI 8] b sc (nc + 6) (ns + 9180)) (H.upd (k := 8) (by show 8 < 21; decide)) (fun h H => ?_)
  refine x_run 2 (pc' := 104) (lv' := [(0, .ref (B + 8))]) (st' := [.int (nI 3000), .ref (B + 8)]) rfl ?_
  refine x_newa (t := 0) rfl rfl (H.nok (n := 3000) (by omega) (by omega) (by omega)) ?_
  rw [nI_clamp (show 3000 < 2 ^ 31 by omega), show h.1 = B + 21 from H.1]
  refine gen_h (A := HL B [y0, y1, y2, y3, y4, y5, y6, y7, .inl (4, [.int 0, .int 0, .int 0, .ref (B + 9), .ref (B + 10), .ref (B + 11), .ref (B + 12), .ref (B + 13), .ref (B + 14), .ref (B + 15), .int 0, .ref (B + 16), .ref (B + 17), .ref (B + 18), .ref (B + 19), .ref (B + 20), .long 0, .long 0, .long 0, .int 0, .null, .null, .null, .null, .null, .null]), dI 60, dL 60, dL 60, dL 60, dL 60, dL 60, dI 60, dB 20, dI 20, dI 80, dL 80, dI 8, dI 3000] b sc (nc + 5) (ns + 6180)) (H.push (by omega) (by omega)) (fun h H => ?_)
  refine x_put rfl rfl (H.2.1 8 _ rfl) rfl ?_
  refine gen_h (A := HL B [y0, y1, y2, y3, y4, y5, y6, y7, .inl (4, [.int 0, .int 0, .int 0, .ref (B + 9), .ref (B + 10), .ref (B + 11), .ref (B + 12), .ref (B + 13), .ref (B + 14), .ref (B + 15), .int 0, .ref (B + 16), .ref (B + 17), .ref (B + 18), .ref (B + 19), .ref (B + 20), .long 0, .long 0, .long 0, .int 0, .ref (B + 21), .null, .null, .null, .null, .null]), dI 60, dL 60, dL 60, dL 60, dL 60, dL 60, dI 60, dB 20, dI 20, dI 80, dL 80, dI 8, dI 3000] b sc (nc + 5) (ns + 6180)) (H.upd (k := 8) (by show 8 < 22; decide)) (fun h H => ?_)
  refine x_run 2 (pc' := 113) (lv' := [(0, .ref (B + 8))]) (st' := [.int (nI 3000), .ref (B + 8)]) rfl ?_
  refine x_newa (t := 0) rfl rfl (H.nok (n := 3000) (by omega) (by omega) (by omega)) ?_
  rw [nI_clamp (show 3000 < 2 ^ 31 by omega), show h.1 = B + 22 from H.1]
  refine gen_h (A := HL B [y0, y1, y2, y3, y4, y5, y6, y7, .inl (4, [.int 0, .int 0, .int 0, .ref (B + 9), .ref (B + 10), .ref (B + 11), .ref (B + 12), .ref (B + 13), .ref (B + 14), .ref (B + 15), .int 0, .ref (B + 16), .ref (B + 17), .ref (B + 18), .ref (B + 19), .ref (B + 20), .long 0, .long 0, .long 0, .int 0, .ref (B + 21), .null, .null, .null, .null, .null]), dI 60, dL 60, dL 60, dL 60, dL 60, dL 60, dI 60, dB 20, dI 20, dI 80, dL 80, dI 8, dI 3000, dI 3000] b sc (nc + 4) (ns + 3180)) (H.push (by omega) (by omega)) (fun h H => ?_)
  refine x_put rfl rfl (H.2.1 8 _ rfl) rfl ?_
  refine gen_h (A := HL B [y0, y1, y2, y3, y4, y5, y6, y7, .inl (4, [.int 0, .int 0, .int 0, .ref (B + 9), .ref (B + 10), .ref (B + 11), .ref (B + 12), .ref (B + 13), .ref (B + 14), .ref (B + 15), .int 0, .ref (B + 16), .ref (B + 17), .ref (B + 18), .ref (B + 19), .ref (B + 20), .long 0, .long 0, .long 0, .int 0, .ref (B + 21), .ref (B + 22), .null, .null, .null, .null]), dI 60, dL 60, dL 60, dL 60, dL 60, dL 60, dI 60, dB 20, dI 20, dI 80, dL 80, dI 8, dI 3000, dI 3000] b sc (nc + 4) (ns + 3180)) (H.upd (k := 8) (by show 8 < 23; decide)) (fun h H => ?_)
  refine x_run 2 (pc' := 122) (lv' := [(0, .ref (B + 8))]) (st' := [.int (nI 3000), .ref (B + 8)]) rfl ?_
  refine x_newa (t := 1) rfl rfl (H.nok (n := 3000) (by omega) (by omega) (by omega)) ?_
  rw [nI_clamp (show 3000 < 2 ^ 31 by omega), show h.1 = B + 23 from H.1]
  refine gen_h (A := HL B [y0, y1, y2, y3, y4, y5, y6, y7, .inl (4, [.int 0, .int 0, .int 0, .ref (B + 9), .ref (B + 10), .ref (B + 11), .ref (B + 12), .ref (B + 13), .ref (B + 14), .ref (B + 15), .int 0, .ref (B + 16), .ref (B + 17), .ref (B + 18), .ref (B + 19), .ref (B + 20), .long 0, .long 0, .long 0, .int 0, .ref (B + 21), .ref (B + 22), .null, .null, .null, .null]), dI 60, dL 60, dL 60, dL 60, dL 60, dL 60, dI 60, dB 20, dI 20, dI 80, dL 80, dI 8, dI 3000, dI 3000, dL 3000] b sc (nc + 3) (ns + 180)) (H.push (by omega) (by omega)) (fun h H => ?_)
  refine x_put rfl rfl (H.2.1 8 _ rfl) rfl ?_
  refine gen_h (A := HL B [y0, y1, y2, y3, y4, y5, y6, y7, .inl (4, [.int 0, .int 0, .int 0, .ref (B + 9), .ref (B + 10), .ref (B + 11), .ref (B + 12), .ref (B + 13), .ref (B + 14), .ref (B + 15), .int 0, .ref (B + 16), .ref (B + 17), .ref (B + 18), .ref (B + 19), .ref (B + 20), .long 0, .long 0, .long 0, .int 0, .ref (B + 21), .ref (B + 22), .ref (B + 23), .null, .null, .null]), dI 60, dL 60, dL 60, dL 60, dL 60, dL 60, dI 60, dB 20, dI 20, dI 80, dL 80, dI 8, dI 3000, dI 3000, dL 3000] b sc (nc + 3) (ns + 180)) (H.upd (k := 8) (by show 8 < 24; decide)) (fun h H => ?_)
  refine x_run 2 (pc' := 130) (lv' := [(0, .ref (B + 8))]) (st' := [.int (nI 60), .ref (B + 8)]) rfl ?_
  refine x_newa (t := 1) rfl rfl (H.nok (n := 60) (by omega) (by omega) (by omega)) ?_
  rw [nI_clamp (show 60 < 2 ^ 31 by omega), show h.1 = B + 24 from H.1]
  refine gen_h (A := HL B [y0, y1, y2, y3, y4, y5, y6, y7, .inl (4, [.int 0, .int 0, .int 0, .ref (B + 9), .ref (B + 10), .ref (B + 11), .ref (B + 12), .ref (B + 13), .ref (B + 14), .ref (B + 15), .int 0, .ref (B + 16), .ref (B + 17), .ref (B + 18), .ref (B + 19), .ref (B + 20), .long 0, .long 0, .long 0, .int 0, .ref (B + 21), .ref (B + 22), .ref (B + 23), .null, .null, .null]), dI 60, dL 60, dL 60, dL 60, dL 60, dL 60, dI 60, dB 20, dI 20, dI 80, dL 80, dI 8, dI 3000, dI 3000, dL 3000, dL 60] b sc (nc + 2) (ns + 120)) (H.push (by omega) (by omega)) (fun h H => ?_)
  refine x_put rfl rfl (H.2.1 8 _ rfl) rfl ?_
  refine gen_h (A := HL B [y0, y1, y2, y3, y4, y5, y6, y7, .inl (4, [.int 0, .int 0, .int 0, .ref (B + 9), .ref (B + 10), .ref (B + 11), .ref (B + 12), .ref (B + 13), .ref (B + 14), .ref (B + 15), .int 0, .ref (B + 16), .ref (B + 17), .ref (B + 18), .ref (B + 19), .ref (B + 20), .long 0, .long 0, .long 0, .int 0, .ref (B + 21), .ref (B + 22), .ref (B + 23), .ref (B + 24), .null, .null]), dI 60, dL 60, dL 60, dL 60, dL 60, dL 60, dI 60, dB 20, dI 20, dI 80, dL 80, dI 8, dI 3000, dI 3000, dL 3000, dL 60] b sc (nc + 2) (ns + 120)) (H.upd (k := 8) (by show 8 < 25; decide)) (fun h H => ?_)
  refine x_run 2 (pc' := 138) (lv' := [(0, .ref (B + 8))]) (st' := [.int (nI 60), .ref (B + 8)]) rfl ?_
  refine x_newa (t := 1) rfl rfl (H.nok (n := 60) (by omega) (by omega) (by omega)) ?_
  rw [nI_clamp (show 60 < 2 ^ 31 by omega), show h.1 = B + 25 from H.1]
  refine gen_h (A := HL B [y0, y1, y2, y3, y4, y5, y6, y7, .inl (4, [.int 0, .int 0, .int 0, .ref (B + 9), .ref (B + 10), .ref (B + 11), .ref (B + 12), .ref (B + 13), .ref (B + 14), .ref (B + 15), .int 0, .ref (B + 16), .ref (B + 17), .ref (B + 18), .ref (B + 19), .ref (B + 20), .long 0, .long 0, .long 0, .int 0, .ref (B + 21), .ref (B + 22), .ref (B + 23), .ref (B + 24), .null, .null]), dI 60, dL 60, dL 60, dL 60, dL 60, dL 60, dI 60, dB 20, dI 20, dI 80, dL 80, dI 8, dI 3000, dI 3000, dL 3000, dL 60, dL 60] b sc (nc + 1) (ns + 60)) (H.push (by omega) (by omega)) (fun h H => ?_)
  refine x_put rfl rfl (H.2.1 8 _ rfl) rfl ?_
  refine gen_h (A := HL B [y0, y1, y2, y3, y4, y5, y6, y7, .inl (4, [.int 0, .int 0, .int 0, .ref (B + 9), .ref (B + 10), .ref (B + 11), .ref (B + 12), .ref (B + 13), .ref (B + 14), .ref (B + 15), .int 0, .ref (B + 16), .ref (B + 17), .ref (B + 18), .ref (B + 19), .ref (B + 20), .long 0, .long 0, .long 0, .int 0, .ref (B + 21), .ref (B + 22), .ref (B + 23), .ref (B + 24), .ref (B + 25), .null]), dI 60, dL 60, dL 60, dL 60, dL 60, dL 60, dI 60, dB 20, dI 20, dI 80, dL 80, dI 8, dI 3000, dI 3000, dL 3000, dL 60, dL 60] b sc (nc + 1) (ns + 60)) (H.upd (k := 8) (by show 8 < 26; decide)) (fun h H => ?_)
  refine x_run 2 (pc' := 146) (lv' := [(0, .ref (B + 8))]) (st' := [.int (nI 60), .ref (B + 8)]) rfl ?_
  refine x_newa (t := 1) rfl rfl (H.nok (n := 60) (by omega) (by omega) (by omega)) ?_
  rw [nI_clamp (show 60 < 2 ^ 31 by omega), show h.1 = B + 26 from H.1]
  refine gen_h (A := HL B [y0, y1, y2, y3, y4, y5, y6, y7, .inl (4, [.int 0, .int 0, .int 0, .ref (B + 9), .ref (B + 10), .ref (B + 11), .ref (B + 12), .ref (B + 13), .ref (B + 14), .ref (B + 15), .int 0, .ref (B + 16), .ref (B + 17), .ref (B + 18), .ref (B + 19), .ref (B + 20), .long 0, .long 0, .long 0, .int 0, .ref (B + 21), .ref (B + 22), .ref (B + 23), .ref (B + 24), .ref (B + 25), .null]), dI 60, dL 60, dL 60, dL 60, dL 60, dL 60, dI 60, dB 20, dI 20, dI 80, dL 80, dI 8, dI 3000, dI 3000, dL 3000, dL 60, dL 60, dL 60] b sc (nc + 0) (ns + 0)) (H.push (by omega) (by omega)) (fun h H => ?_)
  refine x_put rfl rfl (H.2.1 8 _ rfl) rfl ?_
  refine gen_h (A := HL B [y0, y1, y2, y3, y4, y5, y6, y7, .inl (4, [.int 0, .int 0, .int 0, .ref (B + 9), .ref (B + 10), .ref (B + 11), .ref (B + 12), .ref (B + 13), .ref (B + 14), .ref (B + 15), .int 0, .ref (B + 16), .ref (B + 17), .ref (B + 18), .ref (B + 19), .ref (B + 20), .long 0, .long 0, .long 0, .int 0, .ref (B + 21), .ref (B + 22), .ref (B + 23), .ref (B + 24), .ref (B + 25), .ref (B + 26)]), dI 60, dL 60, dL 60, dL 60, dL 60, dL 60, dI 60, dB 20, dI 20, dI 80, dL 80, dI 8, dI 3000, dI 3000, dL 3000, dL 60, dL 60, dL 60] b sc (nc + 0) (ns + 0)) (H.upd (k := 8) (by show 8 < 27; decide)) (fun h H => ?_)
  exact x_ret (v := none) rfl rfl rfl ⟨rfl, H⟩
abbrev cs0 (B : Nat) : List mm_C := [.inl (0, [.ref (B + 1), .int 0, .ref (B + 2), .int 0, .ref (B + 3), .ref (B + 4), .long 0, .long 0, .long 0, .int 0]), dR 3 60, dR 4 20, dI 8, .inl (3, [.ref (B + 5), .ref (B + 6), .ref (B + 7), .int 0]), dI 3000, dI 3000, dL 3000, .inl (4, [.int 0, .int 0, .int 0, .ref (B + 9), .ref (B + 10), .ref (B + 11), .ref (B + 12), .ref (B + 13), .ref (B + 14), .ref (B + 15), .int 0, .ref (B + 16), .ref (B + 17), .ref (B + 18), .ref (B + 19), .ref (B + 20), .long 0, .long 0, .long 0, .int 0, .ref (B + 21), .ref (B + 22), .ref (B + 23), .ref (B + 24), .ref (B + 25), .ref (B + 26)]), dI 60, dL 60, dL 60, dL 60, dL 60, dL 60, dI 60, dB 20, dI 20, dI 80, dL 80, dI 8, dI 3000, dI 3000, dL 3000, dL 60, dL 60, dL 60, dL 1]
theorem i_law {Q : mm_O × mm_H → Prop} (H : HL B [] b sc (nc + 28) (ns + 18937) h) (kk : ∀ h, HL B (cs0 B) b sc nc ns h → Wx (d + 9) 110 23 [(4, .int (nI 0)), (0, .ref b), (1, .ref (B + 0)), (2, .ref (B + 8)), (3, .ref (B + 27))] [] h Q) : Wx (d + 9) 110 0 [(0, .ref b)] [] h Q := by
  refine x_new (ci := 0) rfl rfl (H.nob (n := t_N 0) (by omega) (by show 10 ≤ _; omega)) ?_
  rw [show h.1 = B + 0 from H.1]
  refine gen_h (A := HL B [.inl (0, t_df 0)] b sc (nc + 27) (ns + 18927)) (H.push (by omega) (by show _ + 10 ≤ _; omega)) (fun h H => ?_)
  refine x_run 1 (pc' := 4) (lv' := [(0, .ref b)]) (st' := [.ref (B + 0), .ref (B + 0)]) rfl ?_
  refine x_wr0 (A := HL B [.inl (0, [.ref (B + 1), .int 0, .ref (B + 2), .int 0, .ref (B + 3), .ref (B + 4), .long 0, .long 0, .long 0, .int 0]), dR 3 60, dR 4 20, dI 8, .inl (3, [.ref (B + 5), .ref (B + 6), .ref (B + 7), .int 0]), dI 3000, dI 3000, dL 3000] b sc (nc + 20) (ns + 9835)) (k' := 0) (as := [.ref (B + 0)]) (rest := [.ref (B + 0)]) (x_isI (np := 0) rfl rfl rfl rfl rfl) (i_0 (nc := nc + 20) (ns := ns + 9835) (H.less (by omega) (by omega))) (fun h H => ?_)
  refine x_run 1 (pc' := 8) (lv' := [(1, .ref (B + 0)), (0, .ref b)]) (st' := []) rfl ?_
  refine x_new (ci := 4) rfl rfl (H.nob (n := t_N 4) (by omega) (by show 26 ≤ _; omega)) ?_
  rw [show h.1 = B + 8 from H.1]
  refine gen_h (A := HL B [.inl (0, [.ref (B + 1), .int 0, .ref (B + 2), .int 0, .ref (B + 3), .ref (B + 4), .long 0, .long 0, .long 0, .int 0]), dR 3 60, dR 4 20, dI 8, .inl (3, [.ref (B + 5), .ref (B + 6), .ref (B + 7), .int 0]), dI 3000, dI 3000, dL 3000, .inl (4, t_df 4)] b sc (nc + 19) (ns + 9809)) (H.push (by omega) (by show _ + 26 ≤ _; omega)) (fun h H => ?_)
  refine x_run 1 (pc' := 12) (lv' := [(1, .ref (B + 0)), (0, .ref b)]) (st' := [.ref (B + 8), .ref (B + 8)]) rfl ?_
  refine x_wr0 (A := HL B [.inl (0, [.ref (B + 1), .int 0, .ref (B + 2), .int 0, .ref (B + 3), .ref (B + 4), .long 0, .long 0, .long 0, .int 0]), dR 3 60, dR 4 20, dI 8, .inl (3, [.ref (B + 5), .ref (B + 6), .ref (B + 7), .int 0]), dI 3000, dI 3000, dL 3000, .inl (4, [.int 0, .int 0, .int 0, .ref (B + 9), .ref (B + 10), .ref (B + 11), .ref (B + 12), .ref (B + 13), .ref (B + 14), .ref (B + 15), .int 0, .ref (B + 16), .ref (B + 17), .ref (B + 18), .ref (B + 19), .ref (B + 20), .long 0, .long 0, .long 0, .int 0, .ref (B + 21), .ref (B + 22), .ref (B + 23), .ref (B + 24), .ref (B + 25), .ref (B + 26)]), dI 60, dL 60, dL 60, dL 60, dL 60, dL 60, dI 60, dB 20, dI 20, dI 80, dL 80, dI 8, dI 3000, dI 3000, dL 3000, dL 60, dL 60, dL 60] b sc (nc + 1) (ns + 1)) (k' := 53) (as := [.ref (B + 8)]) (rest := [.ref (B + 8)]) (x_isI (np := 0) rfl rfl rfl rfl rfl) (i_53 (nc := nc + 1) (ns := ns + 1) (H.less (by omega) (by omega))) (fun h H => ?_)
  refine x_run 2 (pc' := 17) (lv' := [(2, .ref (B + 8)), (1, .ref (B + 0)), (0, .ref b)]) (st' := [.int (nI 1)]) rfl ?_
  refine x_newa (t := 1) rfl rfl (H.nok (n := 1) (by omega) (by omega) (by omega)) ?_
  rw [nI_clamp (show 1 < 2 ^ 31 by omega), show h.1 = B + 27 from H.1]
  refine gen_h (A := HL B [.inl (0, [.ref (B + 1), .int 0, .ref (B + 2), .int 0, .ref (B + 3), .ref (B + 4), .long 0, .long 0, .long 0, .int 0]), dR 3 60, dR 4 20, dI 8, .inl (3, [.ref (B + 5), .ref (B + 6), .ref (B + 7), .int 0]), dI 3000, dI 3000, dL 3000, .inl (4, [.int 0, .int 0, .int 0, .ref (B + 9), .ref (B + 10), .ref (B + 11), .ref (B + 12), .ref (B + 13), .ref (B + 14), .ref (B + 15), .int 0, .ref (B + 16), .ref (B + 17), .ref (B + 18), .ref (B + 19), .ref (B + 20), .long 0, .long 0, .long 0, .int 0, .ref (B + 21), .ref (B + 22), .ref (B + 23), .ref (B + 24), .ref (B + 25), .ref (B + 26)]), dI 60, dL 60, dL 60, dL 60, dL 60, dL 60, dI 60, dB 20, dI 20, dI 80, dL 80, dI 8, dI 3000, dI 3000, dL 3000, dL 60, dL 60, dL 60, dL 1] b sc nc ns) (H.push (by omega) (by omega)) (fun h H => ?_)
  refine x_run 3 (pc' := 23) (lv' := [(4, .int (nI 0)), (3, .ref (B + 27)), (2, .ref (B + 8)), (1, .ref (B + 0)), (0, .ref b)]) (st' := []) rfl ?_
  refine x_lv (a := [(4, .int (nI 0)), (0, .ref b), (1, .ref (B + 0)), (2, .ref (B + 8)), (3, .ref (B + 27))]) rfl rfl ⟨rfl, rfl, rfl, rfl, rfl, trivial⟩ ?_
  exact kk h H
/-- the first state -/
def P0 : pP := ((0, 0, 0), fun _ _ => 0, fun _ _ => 0, fun _ _ => 0)
def z0 : zZ := (0, fun _ _ => 0)
def X0 (B b len : Nat) (f : Nat → Int32) : xX := (fun t => if t < 28 then B + t else b, 0, len, f)
theorem wf_0 {v : Nat} (hv : v ≤ 2 ^ 30) : wf v P0 := ⟨by decide, by decide, by show 0 + v ≤ _; omega, fun i hi => absurd hi (Nat.not_lt_zero _), fun i hi => absurd hi (Nat.not_lt_zero _), fun i hi => absurd hi (Nat.not_lt_zero _), fun r => by show 0 ≤ 10000; omega⟩
theorem cs0_ct (B b len : Nat) (f : Nat → Int32) (t : Nat) (ht : t < 28) : (cs0 B)[t]? = some (ct (X0 B b len f) P0 P0 z0 t) := by
  have h : t = 0 ∨ t = 1 ∨ t = 2 ∨ t = 3 ∨ t = 4 ∨ t = 5 ∨ t = 6 ∨ t = 7 ∨ t = 8 ∨ t = 9 ∨ t = 10 ∨ t = 11 ∨ t = 12 ∨ t = 13 ∨ t = 14 ∨ t = 15 ∨ t = 16 ∨ t = 17 ∨ t = 18 ∨ t = 19 ∨ t = 20 ∨ t = 21 ∨ t = 22 ∨ t = 23 ∨ t = 24 ∨ t = 25 ∨ t = 26 ∨ t = 27 := by omega
  rcases h with rfl | rfl | rfl | rfl | rfl | rfl | rfl | rfl | rfl | rfl | rfl | rfl | rfl | rfl | rfl | rfl | rfl | rfl | rfl | rfl | rfl | rfl | rfl | rfl | rfl | rfl | rfl | rfl
  all_goals rfl
theorem rep_0 {u v len : Nat} {f : Nat → Int32} (H : HL B (cs0 B) b (.inr (5, len, fun i => .int (f i))) nc ns h) (hu : u ≤ nc) (hs : 60 * u ≤ ns) (hv : v ≤ 2 ^ 30) : Rep u v (X0 B b len f) P0 P0 z0 h := by
  obtain ⟨a1, a2, a3, a4, a5, a6⟩ := H
  have a1 : h.1 = B + 28 := a1
  have hx : ∀ t, t < 28 → (X0 B b len f).1 t = B + t := fun t ht => if_pos ht
  have hx8 : (X0 B b len f).1 28 = b := rfl
  have hl : ∀ t, lv (X0 B b len f) P0 t → t < 29 := fun t ht => by
    rcases ht with q | q | q | q | q
    · exact q
    · have q2 : t < 100 + 0 := q.2
      omega
    · have q2 : t < 200 + 0 := q.2
      omega
    · have q2 : t < 300 + 0 := q.2
      omega
    · have q2 : t < 400 + 0 := q.2
      omega
  refine ⟨fun t ht => ?_, fun t t' ht ht' e => ?_, ⟨by omega, by omega⟩, wf_0 hv, wf_0 hv, by show 0 ≤ 2; omega⟩
  · have ht := hl t ht
    by_cases e : t = 28
    · subst e
      rw [hx8]
      exact ⟨a3, by omega⟩
    · rw [hx t (by omega)]
      refine ⟨?_, by omega⟩
      have ht : t < 28 := by omega
      exact a2 t _ (cs0_ct B b len f t ht)
  · have ht := hl t ht
    have ht' := hl t' ht'
    by_cases e1 : t = 28
    · by_cases e2 : t' = 28
      · omega
      · rw [e1, hx8, hx t' (by omega)] at e; omega
    · by_cases e2 : t' = 28
      · rw [e2, hx8, hx t (by omega)] at e; omega
      · rw [hx t (by omega), hx t' (by omega)] at e; omega
theorem z0a : (0 : Int) ≤ (0 : Int64).toInt := by decide
theorem z0b : (0 : Int64).toInt ≤ 400000000 := by decide
theorem z0c : (0 : Int64).toInt + 400000000 * ((512 : Nat) : Int) ≤ 400000000 * 600 := by decide
theorem inv_0 : Inv 512 P0 := by
  refine ⟨⟨fun i => rfl, fun i _ => ⟨rfl, rfl, rfl, rfl, rfl, rfl⟩, fun j _ => ⟨rfl, rfl, fun _ _ => rfl⟩⟩, fun _ => ⟨fun i => ⟨⟨z0a, z0b⟩, ⟨z0a, z0c⟩, ⟨z0a, z0b⟩, ⟨z0a, z0b⟩, ⟨z0a, z0b⟩⟩, fun q => z0a, z0a, ?_⟩⟩
  have a : Tt P0 = 0 := by
    unfold Tt
    rw [show (pL P0 7 0).toInt = 0 from by decide]
    have := sm_le (f := fun i => (pL P0 4 i).toInt) (B := 0) (fun x => by show (0 : Int64).toInt ≤ 0; decide) 60 0
    have := sm_nn (f := fun i => (pL P0 4 i).toInt) (fun x => by show 0 ≤ (0 : Int64).toInt; decide) 60 0
    omega
  have g : 0 ≤ Gg P0 := sm_nn (fun x => by split <;> omega) 20 0
  omega
/-- the whole law, from its first instruction: on every script it answers true -/
theorem law_all {len : Nat} {f : Nat → Int32} (hl : len ≤ 2560) (H : HL B [] b (.inr (5, len, fun i => .int (f i))) (9000 + 28) (600000 + 18937) h) : Wx (d + 9) 110 0 [(0, .ref b)] [] h lwQ := by
  refine i_law H (fun h H => ?_)
  have R := rep_0 (u := 17 * 512) (v := 2040 * 512) H (by omega) (by omega) (by omega)
  exact l_law 512 0 (X0 B b len f) P0 z0 h R inv_0 rfl hl (by omega) (by show len < _; omega)
end START
