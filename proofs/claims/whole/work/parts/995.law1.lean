section LAW1
variable {u v d : Nat} {X : xX} {P M : pP} {z : zZ} {h : mm_H} {i j : Nat}
def lgA (a b : Int32) : Int64 := (a.toInt64 <<< ((32 : Int32).toInt64 &&& 63)) ||| (b.toInt64 &&& 4294967295)
theorem x_wrE {α : Type} {k pc k' : Nat} {lv : mm_L} {st as rest : List Value} {Q : mm_O × mm_H → Prop} {f : α → Value} {A : α → mm_H → Prop} (hi : x_is d k pc lv st h k' as rest) (w : Wx d k' 0 (lv_args 0 as) [] h (fun r => ∃ b, r.1 = .inl (some (f b)) ∧ A b r.2)) (kk : ∀ b h', A b h' → Wx (d + 1) k (pc + 3) lv (f b :: rest) h' Q) : Wx (d + 1) k pc lv st h Q :=
  x_do hi w (fun r e => by
    obtain ⟨b, e1, e2⟩ := e
    obtain ⟨r1, r2⟩ := r
    replace e1 : r1 = .inl (some (f b)) := e1
    subst e1
    exact kk b r2 e2)
def mA (u v : Nat) (X : xX) (P' : pP) (c : Int32) (x : Int64) (h : mm_H) : Prop := ∃ s : Nat → Nat → Int64, (c = 0 → s 5 0 = x) ∧ Rep u v X P' P' (c, s) h
theorem cd_n {a b c e x : Nat} (h : (x = a ∧ a ≠ 99) ∨ (x = b ∧ b ≠ 99) ∨ (x = c ∧ c ≠ 99) ∨ (x = e ∧ e ≠ 99)) : ¬ cd a b c e x = 0 := by
  unfold cd
  by_cases h1 : x = a
  · rw [if_pos h1]; decide
  · rw [if_neg h1]
    by_cases h2 : x = b
    · rw [if_pos h2]; decide
    · rw [if_neg h2]
      by_cases h3 : x = c
      · rw [if_pos h3]; decide
      · rw [if_neg h3]
        by_cases h4 : x = e
        · rw [if_pos h4]; decide
        · rcases h with q | q | q | q
          · exact absurd q.1 h1
          · exact absurd q.1 h2
          · exact absurd q.1 h3
          · exact absurd q.1 h4
theorem zo_0 {o : oO} (e : o.1 = 0) : (zo o z).2 5 0 = vL o.2.1 := by
  unfold zo
  rw [if_pos e]
  exact s2_self z.2 5 0 (vL o.2.1)
theorem mC_L {a b c e : Nat} (h0 : 0 < a ∧ 0 < b ∧ 0 < c ∧ 0 < e) {o : oO} {r : mm_O × mm_H} (ho : hoL a b c e o) (q : mQ u v X o.2.2 (zo o z) (mo (cd a b c e) (some (.long 0)) o) r) : ∃ x : Int64, r.1 = .inl (some (.long x)) ∧ mA u v X o.2.2 (cd a b c e o.1) x r.2 := by
  obtain ⟨q1, s, q2, q3⟩ := q
  have q1 : r.1 = .inl (if o.1 = 0 then o.2.1 else some (.long 0)) := q1
  rcases ho with ⟨e1, x, ex⟩ | n
  · rw [if_pos e1, ex] at q1
    refine ⟨x, q1, s, fun _ => ?_, q3⟩
    rw [q2 0, zo_0 e1, ex]
    rfl
  · have e1 : ¬ o.1 = 0 := by omega
    rw [if_neg e1] at q1
    exact ⟨0, q1, s, fun k => absurd k (cd_n n), q3⟩
theorem mC_I {a b c e : Nat} (h0 : 0 < a ∧ 0 < b ∧ 0 < c ∧ 0 < e) {o : oO} {r : mm_O × mm_H} (ho : hoI a b c e o) (q : mQ u v X o.2.2 (zo o z) (mo (cd a b c e) (some (.int 0)) o) r) : ∃ x : Int32, r.1 = .inl (some (.int x)) ∧ mA u v X o.2.2 (cd a b c e o.1) x.toInt64 r.2 := by
  obtain ⟨q1, s, q2, q3⟩ := q
  have q1 : r.1 = .inl (if o.1 = 0 then o.2.1 else some (.int 0)) := q1
  rcases ho with ⟨e1, x, ex⟩ | n
  · rw [if_pos e1, ex] at q1
    refine ⟨x, q1, s, fun _ => ?_, q3⟩
    rw [q2 0, zo_0 e1, ex]
    rfl
  · have e1 : ¬ o.1 = 0 := by omega
    rw [if_neg e1] at q1
    exact ⟨0, q1, s, fun k => absurd k (cd_n n), q3⟩
theorem mC_N {a b c e : Nat} (h0 : 0 < a ∧ 0 < b ∧ 0 < c ∧ 0 < e) {o : oO} {r : mm_O × mm_H} (ho : hoN a b c e o) (q : mQ u v X o.2.2 z (mo (cd a b c e) none o) r) : r.1 = .inl none ∧ ∃ s, Rep u v X o.2.2 o.2.2 (cd a b c e o.1, s) r.2 := by
  obtain ⟨q1, s, q2, q3⟩ := q
  have q1 : r.1 = .inl (if o.1 = 0 then o.2.1 else none) := q1
  refine ⟨?_, s, q3⟩
  rw [q1]
  rcases ho with ⟨e1, ex⟩ | n
  · rw [if_pos e1, ex]
  · have e1 : ¬ o.1 = 0 := by omega
    rw [if_neg e1]
theorem s2_claim {P' : pP} {c : Int32} {Q : mm_O × mm_H → Prop} (R : Rep u (v + 1020) X P' P z h) (hl : i + 5 ≤ X.2.2.1) (hL : X.2.2.1 ≤ 2560) (wm : Wx (d + 8) 70 0 (lv_args 0 [.ref (X.1 8), .int (X.2.2.2 (i + 1)), .long (lgA (X.2.2.2 (i + 2)) (X.2.2.2 (i + 3)))]) [] h (fun r => ∃ b, r.1 = .inl (some (.int b)) ∧ mA u v X P' c b.toInt64 r.2)) (kk : ∀ z h, Rep u v X P' P' z h → Wx (d + 9) 110 1234 [(4, .int (nI i)), (0, .ref (X.1 28)), (1, .ref (X.1 0)), (2, .ref (X.1 8)), (3, .ref (X.1 27))] [] h Q) : Wx (d + 9) 110 153 [(4, .int (nI i)), (0, .ref (X.1 28)), (1, .ref (X.1 0)), (2, .ref (X.1 8)), (3, .ref (X.1 27))] [.int c] h Q := by
  refine x_run 6 (pc' := 161) (lv' := [(5, .int (c)), (4, .int (nI i)), (0, .ref (X.1 28)), (1, .ref (X.1 0)), (2, .ref (X.1 8)), (3, .ref (X.1 27))]) (st' := [.int ((nI i) + (nI 1)), .ref (X.1 28), .ref (X.1 8)]) rfl ?_
  rw [nI_add]
  refine x_sald (j := i + 1) rfl R.c28 (mm_idx_nI (by omega) (by omega)) ?_
  refine x_run 4 (pc' := 167) (lv' := [(5, .int (c)), (4, .int (nI i)), (0, .ref (X.1 28)), (1, .ref (X.1 0)), (2, .ref (X.1 8)), (3, .ref (X.1 27))]) (st' := [.int ((nI i) + (nI 2)), .ref (X.1 28), .int (X.2.2.2 (i + 1)), .ref (X.1 8)]) rfl ?_
  rw [nI_add]
  refine x_sald (j := i + 2) rfl R.c28 (mm_idx_nI (by omega) (by omega)) ?_
  refine x_run 7 (pc' := 177) (lv' := [(5, .int (c)), (4, .int (nI i)), (0, .ref (X.1 28)), (1, .ref (X.1 0)), (2, .ref (X.1 8)), (3, .ref (X.1 27))]) (st' := [.int ((nI i) + (nI 3)), .ref (X.1 28), .long (((X.2.2.2 (i + 2)).toInt64) <<< ((32 : Int32).toInt64 &&& 63)), .int (X.2.2.2 (i + 1)), .ref (X.1 8)]) rfl ?_
  rw [nI_add]
  refine x_sald (j := i + 3) rfl R.c28 (mm_idx_nI (by omega) (by omega)) ?_
  refine x_run 1 (pc' := 179) (lv' := [(5, .int (c)), (4, .int (nI i)), (0, .ref (X.1 28)), (1, .ref (X.1 0)), (2, .ref (X.1 8)), (3, .ref (X.1 27))]) (st' := [.long ((X.2.2.2 (i + 3)).toInt64), .long (((X.2.2.2 (i + 2)).toInt64) <<< ((32 : Int32).toInt64 &&& 63)), .int (X.2.2.2 (i + 1)), .ref (X.1 8)]) rfl ?_
  refine x_ldc2 (x := 4294967295) rfl rfl ?_
  refine x_run 2 (pc' := 184) (lv' := [(5, .int (c)), (4, .int (nI i)), (0, .ref (X.1 28)), (1, .ref (X.1 0)), (2, .ref (X.1 8)), (3, .ref (X.1 27))]) (st' := [.long ((((X.2.2.2 (i + 2)).toInt64) <<< ((32 : Int32).toInt64 &&& 63)) ||| (((X.2.2.2 (i + 3)).toInt64) &&& 4294967295)), .int (X.2.2.2 (i + 1)), .ref (X.1 8)]) rfl ?_
  refine x_wrE (f := Value.int) (A := fun b => mA u v X P' c b.toInt64) (k' := 70) (as := [.ref (X.1 8), .int (X.2.2.2 (i + 1)), .long (lgA (X.2.2.2 (i + 2)) (X.2.2.2 (i + 3)))]) (rest := []) (x_isV (np := 2) rfl rfl rfl R.c8 rfl) wm (fun b h R => ?_)
  obtain ⟨s, hb, R⟩ := R
  refine x_run 2 (pc' := 190) (lv' := [(6, .int (b)), (5, .int (c)), (4, .int (nI i)), (0, .ref (X.1 28)), (1, .ref (X.1 0)), (2, .ref (X.1 8)), (3, .ref (X.1 27))]) (st' := [.ref (X.1 8)]) rfl ?_
  refine x_rd (v := .int (c)) (k' := 54) (as := [.ref (X.1 8)]) (rest := []) (x_isV (np := 0) rfl rfl rfl R.c8 rfl) (k_thrown R) ?_
  refine x_run 1 (pc' := 195) (lv' := [(6, .int (b)), (5, .int (c)), (4, .int (nI i)), (0, .ref (X.1 28)), (1, .ref (X.1 0)), (2, .ref (X.1 8)), (3, .ref (X.1 27))]) (st' := [.int (c), .int (c)]) rfl ?_
  refine x_if (c := c = c) (t := 200) rfl rfl (fun c1 => ?_) (fun c1 => ?_)
  · refine x_run 1 (pc' := 202) (lv' := [(6, .int (b)), (5, .int (c)), (4, .int (nI i)), (0, .ref (X.1 28)), (1, .ref (X.1 0)), (2, .ref (X.1 8)), (3, .ref (X.1 27))]) (st' := [.int (c)]) rfl ?_
    refine x_if (c := ¬ c = 0) (t := 217) rfl rfl (fun c2 => ?_) (fun c2 => ?_)
    · refine x_run 1 (pc' := 1234) (lv' := [(6, .int (b)), (5, .int (c)), (4, .int (nI i)), (0, .ref (X.1 28)), (1, .ref (X.1 0)), (2, .ref (X.1 8)), (3, .ref (X.1 27))]) (st' := []) rfl ?_
      refine x_lv (a := [(4, .int (nI i)), (0, .ref (X.1 28)), (1, .ref (X.1 0)), (2, .ref (X.1 8)), (3, .ref (X.1 27))]) rfl rfl ⟨rfl, rfl, rfl, rfl, rfl, trivial⟩ ?_
      exact kk _ h R
    · replace c2 := Classical.not_not.mp c2
      refine x_run 2 (pc' := 207) (lv' := [(6, .int (b)), (5, .int (c)), (4, .int (nI i)), (0, .ref (X.1 28)), (1, .ref (X.1 0)), (2, .ref (X.1 8)), (3, .ref (X.1 27))]) (st' := [.int (0), .ref (X.1 27)]) rfl ?_
      refine x_lald (j := 0) rfl R.c27 (mm_idx_nI (i := 0) (by omega) (by omega)) ?_
      refine x_run 2 (pc' := 211) (lv' := [(6, .int (b)), (5, .int (c)), (4, .int (nI i)), (0, .ref (X.1 28)), (1, .ref (X.1 0)), (2, .ref (X.1 8)), (3, .ref (X.1 27))]) (st' := [.long ((b).toInt64), .long (((c, s)).2 5 0)]) rfl ?_
      refine x_leq (t := 217) rfl rfl rfl (fun c3 => ?_) (fun c3 => ?_)
      · refine x_run 1 (pc' := 1234) (lv' := [(6, .int (b)), (5, .int (c)), (4, .int (nI i)), (0, .ref (X.1 28)), (1, .ref (X.1 0)), (2, .ref (X.1 8)), (3, .ref (X.1 27))]) (st' := []) rfl ?_
        refine x_lv (a := [(4, .int (nI i)), (0, .ref (X.1 28)), (1, .ref (X.1 0)), (2, .ref (X.1 8)), (3, .ref (X.1 27))]) rfl rfl ⟨rfl, rfl, rfl, rfl, rfl, trivial⟩ ?_
        exact kk _ h R
      · exact absurd (hb (by assumption)) c3
  · exact absurd rfl c1
theorem s_claim {t : Nat} {Q : mm_O × mm_H → Prop} (R : Rep (u + 17) (v + 1020 + 1020) X P P z h) (hI : Inv (t + 1) P) (h0 : X.2.1 = 0) (hl : i + 5 ≤ X.2.2.1) (hL : X.2.2.1 ≤ 2560) (kk : ∀ (X' : xX) (P' : pP) (z : zZ) (h : mm_H), Rep u v X' P' P' z h → Inv t P' → X'.2 = X.2 → (∀ t, t < 29 → X'.1 t = X.1 t) → Wx (d + 9) 110 1234 [(4, .int (nI i)), (0, .ref (X'.1 28)), (1, .ref (X'.1 0)), (2, .ref (X'.1 8)), (3, .ref (X'.1 27))] [] h Q) : Wx (d + 9) 110 120 [(4, .int (nI i)), (0, .ref (X.1 28)), (1, .ref (X.1 0)), (2, .ref (X.1 8)), (3, .ref (X.1 27))] [] h Q := by
  obtain ⟨o, hI2, ho, wc, wm⟩ := op_claim hI R.wP (X.2.2.2 (i + 1)) (lgA (X.2.2.2 (i + 2)) (X.2.2.2 (i + 3)))
  refine x_run 5 (pc' := 126) (lv' := [(4, .int (nI i)), (0, .ref (X.1 28)), (1, .ref (X.1 0)), (2, .ref (X.1 8)), (3, .ref (X.1 27))]) (st' := [.int ((nI i) + (nI 1)), .ref (X.1 28), .ref (X.1 0)]) rfl ?_
  rw [nI_add]
  refine x_sald (j := i + 1) rfl R.c28 (mm_idx_nI (by omega) (by omega)) ?_
  refine x_run 4 (pc' := 132) (lv' := [(4, .int (nI i)), (0, .ref (X.1 28)), (1, .ref (X.1 0)), (2, .ref (X.1 8)), (3, .ref (X.1 27))]) (st' := [.int ((nI i) + (nI 2)), .ref (X.1 28), .int (X.2.2.2 (i + 1)), .ref (X.1 0)]) rfl ?_
  rw [nI_add]
  refine x_sald (j := i + 2) rfl R.c28 (mm_idx_nI (by omega) (by omega)) ?_
  refine x_run 7 (pc' := 142) (lv' := [(4, .int (nI i)), (0, .ref (X.1 28)), (1, .ref (X.1 0)), (2, .ref (X.1 8)), (3, .ref (X.1 27))]) (st' := [.int ((nI i) + (nI 3)), .ref (X.1 28), .long (((X.2.2.2 (i + 2)).toInt64) <<< ((32 : Int32).toInt64 &&& 63)), .int (X.2.2.2 (i + 1)), .ref (X.1 0)]) rfl ?_
  rw [nI_add]
  refine x_sald (j := i + 3) rfl R.c28 (mm_idx_nI (by omega) (by omega)) ?_
  refine x_run 1 (pc' := 144) (lv' := [(4, .int (nI i)), (0, .ref (X.1 28)), (1, .ref (X.1 0)), (2, .ref (X.1 8)), (3, .ref (X.1 27))]) (st' := [.long ((X.2.2.2 (i + 3)).toInt64), .long (((X.2.2.2 (i + 2)).toInt64) <<< ((32 : Int32).toInt64 &&& 63)), .int (X.2.2.2 (i + 1)), .ref (X.1 0)]) rfl ?_
  refine x_ldc2 (x := 4294967295) rfl rfl ?_
  refine x_run 3 (pc' := 150) (lv' := [(4, .int (nI i)), (0, .ref (X.1 28)), (1, .ref (X.1 0)), (2, .ref (X.1 8)), (3, .ref (X.1 27))]) (st' := [.ref (X.1 27), .long ((((X.2.2.2 (i + 2)).toInt64) <<< ((32 : Int32).toInt64 &&& 63)) ||| (((X.2.2.2 (i + 3)).toInt64) &&& 4294967295)), .int (X.2.2.2 (i + 1)), .ref (X.1 0)]) rfl ?_
  refine x_wr (v := .int (cd 5 8 6 99 o.1)) (A := RX u (v + 1020) X P (zo o z) o.2.2) (k' := 95) (as := [.ref (X.1 0), .int (X.2.2.2 (i + 1)), .long (lgA (X.2.2.2 (i + 2)) (X.2.2.2 (i + 3))), .ref (X.1 27)]) (rest := []) (x_isS (np := 4) rfl rfl rfl rfl rfl) (h_claim R (wc u (v + 1020) X P z h d R h0) ho) (fun h R => ?_)
  obtain ⟨X2, R, eX, eT⟩ := R
  refine x_lv (a := [(4, .int (nI i)), (0, .ref (X.1 28)), (1, .ref (X.1 0)), (2, .ref (X.1 8)), (3, .ref (X.1 27))]) rfl rfl ⟨rfl, rfl, rfl, rfl, rfl, trivial⟩ ?_
  rw [← eT 0 (by omega), ← eT 8 (by omega), ← eT 27 (by omega), ← eT 28 (by omega)]
  refine s2_claim (X := X2) R (by rw [eX]; exact hl) (by rw [eX]; exact hL) (by rw [eX]; exact (wm u v X2 o.2.2 (zo o z) h (d + 1) R).mono (fun r e => mC_I (by decide) ho e)) (fun z h R => kk X2 o.2.2 z h R hI2 eX eT)
theorem s2_owes {P' : pP} {c : Int32} {Q : mm_O × mm_H → Prop} (R : Rep u (v + 1020) X P' P z h) (hl : i + 5 ≤ X.2.2.1) (hL : X.2.2.1 ≤ 2560) (wm : Wx (d + 8) 71 0 (lv_args 0 [.ref (X.1 8), .int (X.2.2.2 (i + 1)), .long (lgA (X.2.2.2 (i + 2)) (X.2.2.2 (i + 3)))]) [] h (fun r => ∃ b, r.1 = .inl (some (.long b)) ∧ mA u v X P' c b r.2)) (kk : ∀ z h, Rep u v X P' P' z h → Wx (d + 9) 110 1234 [(4, .int (nI i)), (0, .ref (X.1 28)), (1, .ref (X.1 0)), (2, .ref (X.1 8)), (3, .ref (X.1 27))] [] h Q) : Wx (d + 9) 110 253 [(4, .int (nI i)), (0, .ref (X.1 28)), (1, .ref (X.1 0)), (2, .ref (X.1 8)), (3, .ref (X.1 27))] [.int c] h Q := by
  refine x_run 6 (pc' := 261) (lv' := [(5, .int (c)), (4, .int (nI i)), (0, .ref (X.1 28)), (1, .ref (X.1 0)), (2, .ref (X.1 8)), (3, .ref (X.1 27))]) (st' := [.int ((nI i) + (nI 1)), .ref (X.1 28), .ref (X.1 8)]) rfl ?_
  rw [nI_add]
  refine x_sald (j := i + 1) rfl R.c28 (mm_idx_nI (by omega) (by omega)) ?_
  refine x_run 4 (pc' := 267) (lv' := [(5, .int (c)), (4, .int (nI i)), (0, .ref (X.1 28)), (1, .ref (X.1 0)), (2, .ref (X.1 8)), (3, .ref (X.1 27))]) (st' := [.int ((nI i) + (nI 2)), .ref (X.1 28), .int (X.2.2.2 (i + 1)), .ref (X.1 8)]) rfl ?_
  rw [nI_add]
  refine x_sald (j := i + 2) rfl R.c28 (mm_idx_nI (by omega) (by omega)) ?_
  refine x_run 7 (pc' := 277) (lv' := [(5, .int (c)), (4, .int (nI i)), (0, .ref (X.1 28)), (1, .ref (X.1 0)), (2, .ref (X.1 8)), (3, .ref (X.1 27))]) (st' := [.int ((nI i) + (nI 3)), .ref (X.1 28), .long (((X.2.2.2 (i + 2)).toInt64) <<< ((32 : Int32).toInt64 &&& 63)), .int (X.2.2.2 (i + 1)), .ref (X.1 8)]) rfl ?_
  rw [nI_add]
  refine x_sald (j := i + 3) rfl R.c28 (mm_idx_nI (by omega) (by omega)) ?_
  refine x_run 1 (pc' := 279) (lv' := [(5, .int (c)), (4, .int (nI i)), (0, .ref (X.1 28)), (1, .ref (X.1 0)), (2, .ref (X.1 8)), (3, .ref (X.1 27))]) (st' := [.long ((X.2.2.2 (i + 3)).toInt64), .long (((X.2.2.2 (i + 2)).toInt64) <<< ((32 : Int32).toInt64 &&& 63)), .int (X.2.2.2 (i + 1)), .ref (X.1 8)]) rfl ?_
  refine x_ldc2 (x := 4294967295) rfl rfl ?_
  refine x_run 2 (pc' := 284) (lv' := [(5, .int (c)), (4, .int (nI i)), (0, .ref (X.1 28)), (1, .ref (X.1 0)), (2, .ref (X.1 8)), (3, .ref (X.1 27))]) (st' := [.long ((((X.2.2.2 (i + 2)).toInt64) <<< ((32 : Int32).toInt64 &&& 63)) ||| (((X.2.2.2 (i + 3)).toInt64) &&& 4294967295)), .int (X.2.2.2 (i + 1)), .ref (X.1 8)]) rfl ?_
  refine x_wrE (f := Value.long) (A := fun b => mA u v X P' c b) (k' := 71) (as := [.ref (X.1 8), .int (X.2.2.2 (i + 1)), .long (lgA (X.2.2.2 (i + 2)) (X.2.2.2 (i + 3)))]) (rest := []) (x_isV (np := 2) rfl rfl rfl R.c8 rfl) wm (fun b h R => ?_)
  obtain ⟨s, hb, R⟩ := R
  refine x_run 2 (pc' := 290) (lv' := [(6, .long (b)), (5, .int (c)), (4, .int (nI i)), (0, .ref (X.1 28)), (1, .ref (X.1 0)), (2, .ref (X.1 8)), (3, .ref (X.1 27))]) (st' := [.ref (X.1 8)]) rfl ?_
  refine x_rd (v := .int (c)) (k' := 54) (as := [.ref (X.1 8)]) (rest := []) (x_isV (np := 0) rfl rfl rfl R.c8 rfl) (k_thrown R) ?_
  refine x_run 1 (pc' := 295) (lv' := [(6, .long (b)), (5, .int (c)), (4, .int (nI i)), (0, .ref (X.1 28)), (1, .ref (X.1 0)), (2, .ref (X.1 8)), (3, .ref (X.1 27))]) (st' := [.int (c), .int (c)]) rfl ?_
  refine x_if (c := c = c) (t := 300) rfl rfl (fun c1 => ?_) (fun c1 => ?_)
  · refine x_run 1 (pc' := 302) (lv' := [(6, .long (b)), (5, .int (c)), (4, .int (nI i)), (0, .ref (X.1 28)), (1, .ref (X.1 0)), (2, .ref (X.1 8)), (3, .ref (X.1 27))]) (st' := [.int (c)]) rfl ?_
    refine x_if (c := ¬ c = 0) (t := 316) rfl rfl (fun c2 => ?_) (fun c2 => ?_)
    · refine x_run 1 (pc' := 1234) (lv' := [(6, .long (b)), (5, .int (c)), (4, .int (nI i)), (0, .ref (X.1 28)), (1, .ref (X.1 0)), (2, .ref (X.1 8)), (3, .ref (X.1 27))]) (st' := []) rfl ?_
      refine x_lv (a := [(4, .int (nI i)), (0, .ref (X.1 28)), (1, .ref (X.1 0)), (2, .ref (X.1 8)), (3, .ref (X.1 27))]) rfl rfl ⟨rfl, rfl, rfl, rfl, rfl, trivial⟩ ?_
      exact kk _ h R
    · replace c2 := Classical.not_not.mp c2
      refine x_run 2 (pc' := 307) (lv' := [(6, .long (b)), (5, .int (c)), (4, .int (nI i)), (0, .ref (X.1 28)), (1, .ref (X.1 0)), (2, .ref (X.1 8)), (3, .ref (X.1 27))]) (st' := [.int (0), .ref (X.1 27)]) rfl ?_
      refine x_lald (j := 0) rfl R.c27 (mm_idx_nI (i := 0) (by omega) (by omega)) ?_
      refine x_run 1 (pc' := 310) (lv' := [(6, .long (b)), (5, .int (c)), (4, .int (nI i)), (0, .ref (X.1 28)), (1, .ref (X.1 0)), (2, .ref (X.1 8)), (3, .ref (X.1 27))]) (st' := [.long (b), .long (((c, s)).2 5 0)]) rfl ?_
      refine x_leq (t := 316) rfl rfl rfl (fun c3 => ?_) (fun c3 => ?_)
      · refine x_run 1 (pc' := 1234) (lv' := [(6, .long (b)), (5, .int (c)), (4, .int (nI i)), (0, .ref (X.1 28)), (1, .ref (X.1 0)), (2, .ref (X.1 8)), (3, .ref (X.1 27))]) (st' := []) rfl ?_
        refine x_lv (a := [(4, .int (nI i)), (0, .ref (X.1 28)), (1, .ref (X.1 0)), (2, .ref (X.1 8)), (3, .ref (X.1 27))]) rfl rfl ⟨rfl, rfl, rfl, rfl, rfl, trivial⟩ ?_
        exact kk _ h R
      · exact absurd (hb (by assumption)) c3
  · exact absurd rfl c1
theorem s_owes {t : Nat} {Q : mm_O × mm_H → Prop} (R : Rep (u + 17) (v + 1020 + 1020) X P P z h) (hI : Inv (t + 1) P) (h0 : X.2.1 = 0) (hl : i + 5 ≤ X.2.2.1) (hL : X.2.2.1 ≤ 2560) (kk : ∀ (X' : xX) (P' : pP) (z : zZ) (h : mm_H), Rep u v X' P' P' z h → Inv t P' → X'.2 = X.2 → (∀ t, t < 29 → X'.1 t = X.1 t) → Wx (d + 9) 110 1234 [(4, .int (nI i)), (0, .ref (X'.1 28)), (1, .ref (X'.1 0)), (2, .ref (X'.1 8)), (3, .ref (X'.1 27))] [] h Q) : Wx (d + 9) 110 220 [(4, .int (nI i)), (0, .ref (X.1 28)), (1, .ref (X.1 0)), (2, .ref (X.1 8)), (3, .ref (X.1 27))] [] h Q := by
  obtain ⟨o, hI2, ho, wc, wm⟩ := op_owes hI R.wP (X.2.2.2 (i + 1)) (lgA (X.2.2.2 (i + 2)) (X.2.2.2 (i + 3)))
  refine x_run 5 (pc' := 226) (lv' := [(4, .int (nI i)), (0, .ref (X.1 28)), (1, .ref (X.1 0)), (2, .ref (X.1 8)), (3, .ref (X.1 27))]) (st' := [.int ((nI i) + (nI 1)), .ref (X.1 28), .ref (X.1 0)]) rfl ?_
  rw [nI_add]
  refine x_sald (j := i + 1) rfl R.c28 (mm_idx_nI (by omega) (by omega)) ?_
  refine x_run 4 (pc' := 232) (lv' := [(4, .int (nI i)), (0, .ref (X.1 28)), (1, .ref (X.1 0)), (2, .ref (X.1 8)), (3, .ref (X.1 27))]) (st' := [.int ((nI i) + (nI 2)), .ref (X.1 28), .int (X.2.2.2 (i + 1)), .ref (X.1 0)]) rfl ?_
  rw [nI_add]
  refine x_sald (j := i + 2) rfl R.c28 (mm_idx_nI (by omega) (by omega)) ?_
  refine x_run 7 (pc' := 242) (lv' := [(4, .int (nI i)), (0, .ref (X.1 28)), (1, .ref (X.1 0)), (2, .ref (X.1 8)), (3, .ref (X.1 27))]) (st' := [.int ((nI i) + (nI 3)), .ref (X.1 28), .long (((X.2.2.2 (i + 2)).toInt64) <<< ((32 : Int32).toInt64 &&& 63)), .int (X.2.2.2 (i + 1)), .ref (X.1 0)]) rfl ?_
  rw [nI_add]
  refine x_sald (j := i + 3) rfl R.c28 (mm_idx_nI (by omega) (by omega)) ?_
  refine x_run 1 (pc' := 244) (lv' := [(4, .int (nI i)), (0, .ref (X.1 28)), (1, .ref (X.1 0)), (2, .ref (X.1 8)), (3, .ref (X.1 27))]) (st' := [.long ((X.2.2.2 (i + 3)).toInt64), .long (((X.2.2.2 (i + 2)).toInt64) <<< ((32 : Int32).toInt64 &&& 63)), .int (X.2.2.2 (i + 1)), .ref (X.1 0)]) rfl ?_
  refine x_ldc2 (x := 4294967295) rfl rfl ?_
  refine x_run 3 (pc' := 250) (lv' := [(4, .int (nI i)), (0, .ref (X.1 28)), (1, .ref (X.1 0)), (2, .ref (X.1 8)), (3, .ref (X.1 27))]) (st' := [.ref (X.1 27), .long ((((X.2.2.2 (i + 2)).toInt64) <<< ((32 : Int32).toInt64 &&& 63)) ||| (((X.2.2.2 (i + 3)).toInt64) &&& 4294967295)), .int (X.2.2.2 (i + 1)), .ref (X.1 0)]) rfl ?_
  refine x_wr (v := .int (cd 7 5 6 99 o.1)) (A := RX u (v + 1020) X P (zo o z) o.2.2) (k' := 96) (as := [.ref (X.1 0), .int (X.2.2.2 (i + 1)), .long (lgA (X.2.2.2 (i + 2)) (X.2.2.2 (i + 3))), .ref (X.1 27)]) (rest := []) (x_isS (np := 4) rfl rfl rfl rfl rfl) (h_owes R (wc u (v + 1020) X P z h d R h0) ho) (fun h R => ?_)
  obtain ⟨X2, R, eX, eT⟩ := R
  refine x_lv (a := [(4, .int (nI i)), (0, .ref (X.1 28)), (1, .ref (X.1 0)), (2, .ref (X.1 8)), (3, .ref (X.1 27))]) rfl rfl ⟨rfl, rfl, rfl, rfl, rfl, trivial⟩ ?_
  rw [← eT 0 (by omega), ← eT 8 (by omega), ← eT 27 (by omega), ← eT 28 (by omega)]
  refine s2_owes (X := X2) R (by rw [eX]; exact hl) (by rw [eX]; exact hL) (by rw [eX]; exact (wm u v X2 o.2.2 (zo o z) h (d + 1) R).mono (fun r e => mC_L (by decide) ho e)) (fun z h R => kk X2 o.2.2 z h R hI2 eX eT)
theorem s2_asset {P' : pP} {c : Int32} {Q : mm_O × mm_H → Prop} (R : Rep u (v + 1020) X P' P z h) (hl : i + 5 ≤ X.2.2.1) (hL : X.2.2.1 ≤ 2560) (wm : Wx (d + 8) 72 0 (lv_args 0 [.ref (X.1 8)]) [] h (fun r => ∃ b, r.1 = .inl (some (.int b)) ∧ mA u v X P' c b.toInt64 r.2)) (kk : ∀ z h, Rep u v X P' P' z h → Wx (d + 9) 110 1234 [(4, .int (nI i)), (0, .ref (X.1 28)), (1, .ref (X.1 0)), (2, .ref (X.1 8)), (3, .ref (X.1 27))] [] h Q) : Wx (d + 9) 110 324 [(4, .int (nI i)), (0, .ref (X.1 28)), (1, .ref (X.1 0)), (2, .ref (X.1 8)), (3, .ref (X.1 27))] [.int c] h Q := by
  refine x_run 2 (pc' := 327) (lv' := [(5, .int (c)), (4, .int (nI i)), (0, .ref (X.1 28)), (1, .ref (X.1 0)), (2, .ref (X.1 8)), (3, .ref (X.1 27))]) (st' := [.ref (X.1 8)]) rfl ?_
  refine x_wrE (f := Value.int) (A := fun b => mA u v X P' c b.toInt64) (k' := 72) (as := [.ref (X.1 8)]) (rest := []) (x_isV (np := 0) rfl rfl rfl R.c8 rfl) wm (fun b h R => ?_)
  obtain ⟨s, hb, R⟩ := R
  refine x_run 2 (pc' := 333) (lv' := [(6, .int (b)), (5, .int (c)), (4, .int (nI i)), (0, .ref (X.1 28)), (1, .ref (X.1 0)), (2, .ref (X.1 8)), (3, .ref (X.1 27))]) (st' := [.ref (X.1 8)]) rfl ?_
  refine x_rd (v := .int (c)) (k' := 54) (as := [.ref (X.1 8)]) (rest := []) (x_isV (np := 0) rfl rfl rfl R.c8 rfl) (k_thrown R) ?_
  refine x_run 1 (pc' := 338) (lv' := [(6, .int (b)), (5, .int (c)), (4, .int (nI i)), (0, .ref (X.1 28)), (1, .ref (X.1 0)), (2, .ref (X.1 8)), (3, .ref (X.1 27))]) (st' := [.int (c), .int (c)]) rfl ?_
  refine x_if (c := c = c) (t := 343) rfl rfl (fun c1 => ?_) (fun c1 => ?_)
  · refine x_run 1 (pc' := 345) (lv' := [(6, .int (b)), (5, .int (c)), (4, .int (nI i)), (0, .ref (X.1 28)), (1, .ref (X.1 0)), (2, .ref (X.1 8)), (3, .ref (X.1 27))]) (st' := [.int (c)]) rfl ?_
    refine x_if (c := ¬ c = 0) (t := 360) rfl rfl (fun c2 => ?_) (fun c2 => ?_)
    · refine x_run 1 (pc' := 1234) (lv' := [(6, .int (b)), (5, .int (c)), (4, .int (nI i)), (0, .ref (X.1 28)), (1, .ref (X.1 0)), (2, .ref (X.1 8)), (3, .ref (X.1 27))]) (st' := []) rfl ?_
      refine x_lv (a := [(4, .int (nI i)), (0, .ref (X.1 28)), (1, .ref (X.1 0)), (2, .ref (X.1 8)), (3, .ref (X.1 27))]) rfl rfl ⟨rfl, rfl, rfl, rfl, rfl, trivial⟩ ?_
      exact kk _ h R
    · replace c2 := Classical.not_not.mp c2
      refine x_run 2 (pc' := 350) (lv' := [(6, .int (b)), (5, .int (c)), (4, .int (nI i)), (0, .ref (X.1 28)), (1, .ref (X.1 0)), (2, .ref (X.1 8)), (3, .ref (X.1 27))]) (st' := [.int (0), .ref (X.1 27)]) rfl ?_
      refine x_lald (j := 0) rfl R.c27 (mm_idx_nI (i := 0) (by omega) (by omega)) ?_
      refine x_run 2 (pc' := 354) (lv' := [(6, .int (b)), (5, .int (c)), (4, .int (nI i)), (0, .ref (X.1 28)), (1, .ref (X.1 0)), (2, .ref (X.1 8)), (3, .ref (X.1 27))]) (st' := [.long ((b).toInt64), .long (((c, s)).2 5 0)]) rfl ?_
      refine x_leq (t := 360) rfl rfl rfl (fun c3 => ?_) (fun c3 => ?_)
      · refine x_run 1 (pc' := 1234) (lv' := [(6, .int (b)), (5, .int (c)), (4, .int (nI i)), (0, .ref (X.1 28)), (1, .ref (X.1 0)), (2, .ref (X.1 8)), (3, .ref (X.1 27))]) (st' := []) rfl ?_
        refine x_lv (a := [(4, .int (nI i)), (0, .ref (X.1 28)), (1, .ref (X.1 0)), (2, .ref (X.1 8)), (3, .ref (X.1 27))]) rfl rfl ⟨rfl, rfl, rfl, rfl, rfl, trivial⟩ ?_
        exact kk _ h R
      · exact absurd (hb (by assumption)) c3
  · exact absurd rfl c1
theorem s_asset {t : Nat} {Q : mm_O × mm_H → Prop} (R : Rep (u + 17) (v + 1020 + 1020) X P P z h) (hI : Inv (t + 1) P) (h0 : X.2.1 = 0) (hl : i + 5 ≤ X.2.2.1) (hL : X.2.2.1 ≤ 2560) (kk : ∀ (X' : xX) (P' : pP) (z : zZ) (h : mm_H), Rep u v X' P' P' z h → Inv t P' → X'.2 = X.2 → (∀ t, t < 29 → X'.1 t = X.1 t) → Wx (d + 9) 110 1234 [(4, .int (nI i)), (0, .ref (X'.1 28)), (1, .ref (X'.1 0)), (2, .ref (X'.1 8)), (3, .ref (X'.1 27))] [] h Q) : Wx (d + 9) 110 319 [(4, .int (nI i)), (0, .ref (X.1 28)), (1, .ref (X.1 0)), (2, .ref (X.1 8)), (3, .ref (X.1 27))] [] h Q := by
  obtain ⟨o, hI2, ho, wc, wm⟩ := op_asset hI R.wP
  refine x_run 2 (pc' := 321) (lv' := [(4, .int (nI i)), (0, .ref (X.1 28)), (1, .ref (X.1 0)), (2, .ref (X.1 8)), (3, .ref (X.1 27))]) (st' := [.ref (X.1 27), .ref (X.1 0)]) rfl ?_
  refine x_wr (v := .int (cd 8 6 99 99 o.1)) (A := RX u (v + 1020) X P (zo o z) o.2.2) (k' := 97) (as := [.ref (X.1 0), .ref (X.1 27)]) (rest := []) (x_isS (np := 2) rfl rfl rfl rfl rfl) (h_asset R (wc u (v + 1020) X P z h d R h0) ho) (fun h R => ?_)
  obtain ⟨X2, R, eX, eT⟩ := R
  refine x_lv (a := [(4, .int (nI i)), (0, .ref (X.1 28)), (1, .ref (X.1 0)), (2, .ref (X.1 8)), (3, .ref (X.1 27))]) rfl rfl ⟨rfl, rfl, rfl, rfl, rfl, trivial⟩ ?_
  rw [← eT 0 (by omega), ← eT 8 (by omega), ← eT 27 (by omega), ← eT 28 (by omega)]
  refine s2_asset (X := X2) R (by rw [eX]; exact hl) (by rw [eX]; exact hL) (by exact (wm u v X2 o.2.2 (zo o z) h (d + 1) R).mono (fun r e => mC_I (by decide) ho e)) (fun z h R => kk X2 o.2.2 z h R hI2 eX eT)
theorem s2_sec {P' : pP} {c : Int32} {Q : mm_O × mm_H → Prop} (R : Rep u (v + 1020) X P' P z h) (hl : i + 5 ≤ X.2.2.1) (hL : X.2.2.1 ≤ 2560) (wm : Wx (d + 8) 73 0 (lv_args 0 [.ref (X.1 8), .int (X.2.2.2 (i + 1)), .int (X.2.2.2 (i + 2)), .long (lgA (X.2.2.2 (i + 3)) (X.2.2.2 (i + 4)))]) [] h (fun r => ∃ b, r.1 = .inl (some (.int b)) ∧ mA u v X P' c b.toInt64 r.2)) (kk : ∀ z h, Rep u v X P' P' z h → Wx (d + 9) 110 1234 [(4, .int (nI i)), (0, .ref (X.1 28)), (1, .ref (X.1 0)), (2, .ref (X.1 8)), (3, .ref (X.1 27))] [] h Q) : Wx (d + 9) 110 402 [(4, .int (nI i)), (0, .ref (X.1 28)), (1, .ref (X.1 0)), (2, .ref (X.1 8)), (3, .ref (X.1 27))] [.int c] h Q := by
  refine x_run 6 (pc' := 410) (lv' := [(5, .int (c)), (4, .int (nI i)), (0, .ref (X.1 28)), (1, .ref (X.1 0)), (2, .ref (X.1 8)), (3, .ref (X.1 27))]) (st' := [.int ((nI i) + (nI 1)), .ref (X.1 28), .ref (X.1 8)]) rfl ?_
  rw [nI_add]
  refine x_sald (j := i + 1) rfl R.c28 (mm_idx_nI (by omega) (by omega)) ?_
  refine x_run 4 (pc' := 416) (lv' := [(5, .int (c)), (4, .int (nI i)), (0, .ref (X.1 28)), (1, .ref (X.1 0)), (2, .ref (X.1 8)), (3, .ref (X.1 27))]) (st' := [.int ((nI i) + (nI 2)), .ref (X.1 28), .int (X.2.2.2 (i + 1)), .ref (X.1 8)]) rfl ?_
  rw [nI_add]
  refine x_sald (j := i + 2) rfl R.c28 (mm_idx_nI (by omega) (by omega)) ?_
  refine x_run 4 (pc' := 422) (lv' := [(5, .int (c)), (4, .int (nI i)), (0, .ref (X.1 28)), (1, .ref (X.1 0)), (2, .ref (X.1 8)), (3, .ref (X.1 27))]) (st' := [.int ((nI i) + (nI 3)), .ref (X.1 28), .int (X.2.2.2 (i + 2)), .int (X.2.2.2 (i + 1)), .ref (X.1 8)]) rfl ?_
  rw [nI_add]
  refine x_sald (j := i + 3) rfl R.c28 (mm_idx_nI (by omega) (by omega)) ?_
  refine x_run 7 (pc' := 432) (lv' := [(5, .int (c)), (4, .int (nI i)), (0, .ref (X.1 28)), (1, .ref (X.1 0)), (2, .ref (X.1 8)), (3, .ref (X.1 27))]) (st' := [.int ((nI i) + (nI 4)), .ref (X.1 28), .long (((X.2.2.2 (i + 3)).toInt64) <<< ((32 : Int32).toInt64 &&& 63)), .int (X.2.2.2 (i + 2)), .int (X.2.2.2 (i + 1)), .ref (X.1 8)]) rfl ?_
  rw [nI_add]
  refine x_sald (j := i + 4) rfl R.c28 (mm_idx_nI (by omega) (by omega)) ?_
  refine x_run 1 (pc' := 434) (lv' := [(5, .int (c)), (4, .int (nI i)), (0, .ref (X.1 28)), (1, .ref (X.1 0)), (2, .ref (X.1 8)), (3, .ref (X.1 27))]) (st' := [.long ((X.2.2.2 (i + 4)).toInt64), .long (((X.2.2.2 (i + 3)).toInt64) <<< ((32 : Int32).toInt64 &&& 63)), .int (X.2.2.2 (i + 2)), .int (X.2.2.2 (i + 1)), .ref (X.1 8)]) rfl ?_
  refine x_ldc2 (x := 4294967295) rfl rfl ?_
  refine x_run 2 (pc' := 439) (lv' := [(5, .int (c)), (4, .int (nI i)), (0, .ref (X.1 28)), (1, .ref (X.1 0)), (2, .ref (X.1 8)), (3, .ref (X.1 27))]) (st' := [.long ((((X.2.2.2 (i + 3)).toInt64) <<< ((32 : Int32).toInt64 &&& 63)) ||| (((X.2.2.2 (i + 4)).toInt64) &&& 4294967295)), .int (X.2.2.2 (i + 2)), .int (X.2.2.2 (i + 1)), .ref (X.1 8)]) rfl ?_
  refine x_wrE (f := Value.int) (A := fun b => mA u v X P' c b.toInt64) (k' := 73) (as := [.ref (X.1 8), .int (X.2.2.2 (i + 1)), .int (X.2.2.2 (i + 2)), .long (lgA (X.2.2.2 (i + 3)) (X.2.2.2 (i + 4)))]) (rest := []) (x_isV (np := 3) rfl rfl rfl R.c8 rfl) wm (fun b h R => ?_)
  obtain ⟨s, hb, R⟩ := R
  refine x_run 2 (pc' := 445) (lv' := [(6, .int (b)), (5, .int (c)), (4, .int (nI i)), (0, .ref (X.1 28)), (1, .ref (X.1 0)), (2, .ref (X.1 8)), (3, .ref (X.1 27))]) (st' := [.ref (X.1 8)]) rfl ?_
  refine x_rd (v := .int (c)) (k' := 54) (as := [.ref (X.1 8)]) (rest := []) (x_isV (np := 0) rfl rfl rfl R.c8 rfl) (k_thrown R) ?_
  refine x_run 1 (pc' := 450) (lv' := [(6, .int (b)), (5, .int (c)), (4, .int (nI i)), (0, .ref (X.1 28)), (1, .ref (X.1 0)), (2, .ref (X.1 8)), (3, .ref (X.1 27))]) (st' := [.int (c), .int (c)]) rfl ?_
  refine x_if (c := c = c) (t := 455) rfl rfl (fun c1 => ?_) (fun c1 => ?_)
  · refine x_run 1 (pc' := 457) (lv' := [(6, .int (b)), (5, .int (c)), (4, .int (nI i)), (0, .ref (X.1 28)), (1, .ref (X.1 0)), (2, .ref (X.1 8)), (3, .ref (X.1 27))]) (st' := [.int (c)]) rfl ?_
    refine x_if (c := ¬ c = 0) (t := 472) rfl rfl (fun c2 => ?_) (fun c2 => ?_)
    · refine x_run 1 (pc' := 1234) (lv' := [(6, .int (b)), (5, .int (c)), (4, .int (nI i)), (0, .ref (X.1 28)), (1, .ref (X.1 0)), (2, .ref (X.1 8)), (3, .ref (X.1 27))]) (st' := []) rfl ?_
      refine x_lv (a := [(4, .int (nI i)), (0, .ref (X.1 28)), (1, .ref (X.1 0)), (2, .ref (X.1 8)), (3, .ref (X.1 27))]) rfl rfl ⟨rfl, rfl, rfl, rfl, rfl, trivial⟩ ?_
      exact kk _ h R
    · replace c2 := Classical.not_not.mp c2
      refine x_run 2 (pc' := 462) (lv' := [(6, .int (b)), (5, .int (c)), (4, .int (nI i)), (0, .ref (X.1 28)), (1, .ref (X.1 0)), (2, .ref (X.1 8)), (3, .ref (X.1 27))]) (st' := [.int (0), .ref (X.1 27)]) rfl ?_
      refine x_lald (j := 0) rfl R.c27 (mm_idx_nI (i := 0) (by omega) (by omega)) ?_
      refine x_run 2 (pc' := 466) (lv' := [(6, .int (b)), (5, .int (c)), (4, .int (nI i)), (0, .ref (X.1 28)), (1, .ref (X.1 0)), (2, .ref (X.1 8)), (3, .ref (X.1 27))]) (st' := [.long ((b).toInt64), .long (((c, s)).2 5 0)]) rfl ?_
      refine x_leq (t := 472) rfl rfl rfl (fun c3 => ?_) (fun c3 => ?_)
      · refine x_run 1 (pc' := 1234) (lv' := [(6, .int (b)), (5, .int (c)), (4, .int (nI i)), (0, .ref (X.1 28)), (1, .ref (X.1 0)), (2, .ref (X.1 8)), (3, .ref (X.1 27))]) (st' := []) rfl ?_
        refine x_lv (a := [(4, .int (nI i)), (0, .ref (X.1 28)), (1, .ref (X.1 0)), (2, .ref (X.1 8)), (3, .ref (X.1 27))]) rfl rfl ⟨rfl, rfl, rfl, rfl, rfl, trivial⟩ ?_
        exact kk _ h R
      · exact absurd (hb (by assumption)) c3
  · exact absurd rfl c1
theorem s_sec {t : Nat} {Q : mm_O × mm_H → Prop} (R : Rep (u + 17) (v + 1020 + 1020) X P P z h) (hI : Inv (t + 1) P) (h0 : X.2.1 = 0) (hl : i + 5 ≤ X.2.2.1) (hL : X.2.2.1 ≤ 2560) (kk : ∀ (X' : xX) (P' : pP) (z : zZ) (h : mm_H), Rep u v X' P' P' z h → Inv t P' → X'.2 = X.2 → (∀ t, t < 29 → X'.1 t = X.1 t) → Wx (d + 9) 110 1234 [(4, .int (nI i)), (0, .ref (X'.1 28)), (1, .ref (X'.1 0)), (2, .ref (X'.1 8)), (3, .ref (X'.1 27))] [] h Q) : Wx (d + 9) 110 363 [(4, .int (nI i)), (0, .ref (X.1 28)), (1, .ref (X.1 0)), (2, .ref (X.1 8)), (3, .ref (X.1 27))] [] h Q := by
  obtain ⟨o, hI2, ho, wc, wm⟩ := op_sec hI R.wP (X.2.2.2 (i + 1)) (X.2.2.2 (i + 2)) (lgA (X.2.2.2 (i + 3)) (X.2.2.2 (i + 4)))
  refine x_run 5 (pc' := 369) (lv' := [(4, .int (nI i)), (0, .ref (X.1 28)), (1, .ref (X.1 0)), (2, .ref (X.1 8)), (3, .ref (X.1 27))]) (st' := [.int ((nI i) + (nI 1)), .ref (X.1 28), .ref (X.1 0)]) rfl ?_
  rw [nI_add]
  refine x_sald (j := i + 1) rfl R.c28 (mm_idx_nI (by omega) (by omega)) ?_
  refine x_run 4 (pc' := 375) (lv' := [(4, .int (nI i)), (0, .ref (X.1 28)), (1, .ref (X.1 0)), (2, .ref (X.1 8)), (3, .ref (X.1 27))]) (st' := [.int ((nI i) + (nI 2)), .ref (X.1 28), .int (X.2.2.2 (i + 1)), .ref (X.1 0)]) rfl ?_
  rw [nI_add]
  refine x_sald (j := i + 2) rfl R.c28 (mm_idx_nI (by omega) (by omega)) ?_
  refine x_run 4 (pc' := 381) (lv' := [(4, .int (nI i)), (0, .ref (X.1 28)), (1, .ref (X.1 0)), (2, .ref (X.1 8)), (3, .ref (X.1 27))]) (st' := [.int ((nI i) + (nI 3)), .ref (X.1 28), .int (X.2.2.2 (i + 2)), .int (X.2.2.2 (i + 1)), .ref (X.1 0)]) rfl ?_
  rw [nI_add]
  refine x_sald (j := i + 3) rfl R.c28 (mm_idx_nI (by omega) (by omega)) ?_
  refine x_run 7 (pc' := 391) (lv' := [(4, .int (nI i)), (0, .ref (X.1 28)), (1, .ref (X.1 0)), (2, .ref (X.1 8)), (3, .ref (X.1 27))]) (st' := [.int ((nI i) + (nI 4)), .ref (X.1 28), .long (((X.2.2.2 (i + 3)).toInt64) <<< ((32 : Int32).toInt64 &&& 63)), .int (X.2.2.2 (i + 2)), .int (X.2.2.2 (i + 1)), .ref (X.1 0)]) rfl ?_
  rw [nI_add]
  refine x_sald (j := i + 4) rfl R.c28 (mm_idx_nI (by omega) (by omega)) ?_
  refine x_run 1 (pc' := 393) (lv' := [(4, .int (nI i)), (0, .ref (X.1 28)), (1, .ref (X.1 0)), (2, .ref (X.1 8)), (3, .ref (X.1 27))]) (st' := [.long ((X.2.2.2 (i + 4)).toInt64), .long (((X.2.2.2 (i + 3)).toInt64) <<< ((32 : Int32).toInt64 &&& 63)), .int (X.2.2.2 (i + 2)), .int (X.2.2.2 (i + 1)), .ref (X.1 0)]) rfl ?_
  refine x_ldc2 (x := 4294967295) rfl rfl ?_
  refine x_run 3 (pc' := 399) (lv' := [(4, .int (nI i)), (0, .ref (X.1 28)), (1, .ref (X.1 0)), (2, .ref (X.1 8)), (3, .ref (X.1 27))]) (st' := [.ref (X.1 27), .long ((((X.2.2.2 (i + 3)).toInt64) <<< ((32 : Int32).toInt64 &&& 63)) ||| (((X.2.2.2 (i + 4)).toInt64) &&& 4294967295)), .int (X.2.2.2 (i + 2)), .int (X.2.2.2 (i + 1)), .ref (X.1 0)]) rfl ?_
  refine x_wr (v := .int (cd 7 5 8 6 o.1)) (A := RX u (v + 1020) X P (zo o z) o.2.2) (k' := 98) (as := [.ref (X.1 0), .int (X.2.2.2 (i + 1)), .int (X.2.2.2 (i + 2)), .long (lgA (X.2.2.2 (i + 3)) (X.2.2.2 (i + 4))), .ref (X.1 27)]) (rest := []) (x_isS (np := 5) rfl rfl rfl rfl rfl) (h_sec R (wc u (v + 1020) X P z h d R h0) ho) (fun h R => ?_)
  obtain ⟨X2, R, eX, eT⟩ := R
  refine x_lv (a := [(4, .int (nI i)), (0, .ref (X.1 28)), (1, .ref (X.1 0)), (2, .ref (X.1 8)), (3, .ref (X.1 27))]) rfl rfl ⟨rfl, rfl, rfl, rfl, rfl, trivial⟩ ?_
  rw [← eT 0 (by omega), ← eT 8 (by omega), ← eT 27 (by omega), ← eT 28 (by omega)]
  refine s2_sec (X := X2) R (by rw [eX]; exact hl) (by rw [eX]; exact hL) (by rw [eX]; exact (wm u v X2 o.2.2 (zo o z) h (d + 1) R).mono (fun r e => mC_I (by decide) ho e)) (fun z h R => kk X2 o.2.2 z h R hI2 eX eT)
theorem s2_real {P' : pP} {c : Int32} {Q : mm_O × mm_H → Prop} (R : Rep u (v + 1020) X P' P z h) (hl : i + 5 ≤ X.2.2.1) (hL : X.2.2.1 ≤ 2560) (wm : Wx (d + 8) 75 0 (lv_args 0 [.ref (X.1 8), .int (X.2.2.2 (i + 1)), .long (lgA (X.2.2.2 (i + 2)) (X.2.2.2 (i + 3)))]) [] h (fun r => ∃ b, r.1 = .inl (some (.long b)) ∧ mA u v X P' c b r.2)) (kk : ∀ z h, Rep u v X P' P' z h → Wx (d + 9) 110 1234 [(4, .int (nI i)), (0, .ref (X.1 28)), (1, .ref (X.1 0)), (2, .ref (X.1 8)), (3, .ref (X.1 27))] [] h Q) : Wx (d + 9) 110 508 [(4, .int (nI i)), (0, .ref (X.1 28)), (1, .ref (X.1 0)), (2, .ref (X.1 8)), (3, .ref (X.1 27))] [.int c] h Q := by
  refine x_run 6 (pc' := 516) (lv' := [(5, .int (c)), (4, .int (nI i)), (0, .ref (X.1 28)), (1, .ref (X.1 0)), (2, .ref (X.1 8)), (3, .ref (X.1 27))]) (st' := [.int ((nI i) + (nI 1)), .ref (X.1 28), .ref (X.1 8)]) rfl ?_
  rw [nI_add]
  refine x_sald (j := i + 1) rfl R.c28 (mm_idx_nI (by omega) (by omega)) ?_
  refine x_run 4 (pc' := 522) (lv' := [(5, .int (c)), (4, .int (nI i)), (0, .ref (X.1 28)), (1, .ref (X.1 0)), (2, .ref (X.1 8)), (3, .ref (X.1 27))]) (st' := [.int ((nI i) + (nI 2)), .ref (X.1 28), .int (X.2.2.2 (i + 1)), .ref (X.1 8)]) rfl ?_
  rw [nI_add]
  refine x_sald (j := i + 2) rfl R.c28 (mm_idx_nI (by omega) (by omega)) ?_
  refine x_run 7 (pc' := 532) (lv' := [(5, .int (c)), (4, .int (nI i)), (0, .ref (X.1 28)), (1, .ref (X.1 0)), (2, .ref (X.1 8)), (3, .ref (X.1 27))]) (st' := [.int ((nI i) + (nI 3)), .ref (X.1 28), .long (((X.2.2.2 (i + 2)).toInt64) <<< ((32 : Int32).toInt64 &&& 63)), .int (X.2.2.2 (i + 1)), .ref (X.1 8)]) rfl ?_
  rw [nI_add]
  refine x_sald (j := i + 3) rfl R.c28 (mm_idx_nI (by omega) (by omega)) ?_
  refine x_run 1 (pc' := 534) (lv' := [(5, .int (c)), (4, .int (nI i)), (0, .ref (X.1 28)), (1, .ref (X.1 0)), (2, .ref (X.1 8)), (3, .ref (X.1 27))]) (st' := [.long ((X.2.2.2 (i + 3)).toInt64), .long (((X.2.2.2 (i + 2)).toInt64) <<< ((32 : Int32).toInt64 &&& 63)), .int (X.2.2.2 (i + 1)), .ref (X.1 8)]) rfl ?_
  refine x_ldc2 (x := 4294967295) rfl rfl ?_
  refine x_run 2 (pc' := 539) (lv' := [(5, .int (c)), (4, .int (nI i)), (0, .ref (X.1 28)), (1, .ref (X.1 0)), (2, .ref (X.1 8)), (3, .ref (X.1 27))]) (st' := [.long ((((X.2.2.2 (i + 2)).toInt64) <<< ((32 : Int32).toInt64 &&& 63)) ||| (((X.2.2.2 (i + 3)).toInt64) &&& 4294967295)), .int (X.2.2.2 (i + 1)), .ref (X.1 8)]) rfl ?_
  refine x_wrE (f := Value.long) (A := fun b => mA u v X P' c b) (k' := 75) (as := [.ref (X.1 8), .int (X.2.2.2 (i + 1)), .long (lgA (X.2.2.2 (i + 2)) (X.2.2.2 (i + 3)))]) (rest := []) (x_isV (np := 2) rfl rfl rfl R.c8 rfl) wm (fun b h R => ?_)
  obtain ⟨s, hb, R⟩ := R
  refine x_run 2 (pc' := 545) (lv' := [(6, .long (b)), (5, .int (c)), (4, .int (nI i)), (0, .ref (X.1 28)), (1, .ref (X.1 0)), (2, .ref (X.1 8)), (3, .ref (X.1 27))]) (st' := [.ref (X.1 8)]) rfl ?_
  refine x_rd (v := .int (c)) (k' := 54) (as := [.ref (X.1 8)]) (rest := []) (x_isV (np := 0) rfl rfl rfl R.c8 rfl) (k_thrown R) ?_
  refine x_run 1 (pc' := 550) (lv' := [(6, .long (b)), (5, .int (c)), (4, .int (nI i)), (0, .ref (X.1 28)), (1, .ref (X.1 0)), (2, .ref (X.1 8)), (3, .ref (X.1 27))]) (st' := [.int (c), .int (c)]) rfl ?_
  refine x_if (c := c = c) (t := 555) rfl rfl (fun c1 => ?_) (fun c1 => ?_)
  · refine x_run 1 (pc' := 557) (lv' := [(6, .long (b)), (5, .int (c)), (4, .int (nI i)), (0, .ref (X.1 28)), (1, .ref (X.1 0)), (2, .ref (X.1 8)), (3, .ref (X.1 27))]) (st' := [.int (c)]) rfl ?_
    refine x_if (c := ¬ c = 0) (t := 571) rfl rfl (fun c2 => ?_) (fun c2 => ?_)
    · refine x_run 1 (pc' := 1234) (lv' := [(6, .long (b)), (5, .int (c)), (4, .int (nI i)), (0, .ref (X.1 28)), (1, .ref (X.1 0)), (2, .ref (X.1 8)), (3, .ref (X.1 27))]) (st' := []) rfl ?_
      refine x_lv (a := [(4, .int (nI i)), (0, .ref (X.1 28)), (1, .ref (X.1 0)), (2, .ref (X.1 8)), (3, .ref (X.1 27))]) rfl rfl ⟨rfl, rfl, rfl, rfl, rfl, trivial⟩ ?_
      exact kk _ h R
    · replace c2 := Classical.not_not.mp c2
      refine x_run 2 (pc' := 562) (lv' := [(6, .long (b)), (5, .int (c)), (4, .int (nI i)), (0, .ref (X.1 28)), (1, .ref (X.1 0)), (2, .ref (X.1 8)), (3, .ref (X.1 27))]) (st' := [.int (0), .ref (X.1 27)]) rfl ?_
      refine x_lald (j := 0) rfl R.c27 (mm_idx_nI (i := 0) (by omega) (by omega)) ?_
      refine x_run 1 (pc' := 565) (lv' := [(6, .long (b)), (5, .int (c)), (4, .int (nI i)), (0, .ref (X.1 28)), (1, .ref (X.1 0)), (2, .ref (X.1 8)), (3, .ref (X.1 27))]) (st' := [.long (b), .long (((c, s)).2 5 0)]) rfl ?_
      refine x_leq (t := 571) rfl rfl rfl (fun c3 => ?_) (fun c3 => ?_)
      · refine x_run 1 (pc' := 1234) (lv' := [(6, .long (b)), (5, .int (c)), (4, .int (nI i)), (0, .ref (X.1 28)), (1, .ref (X.1 0)), (2, .ref (X.1 8)), (3, .ref (X.1 27))]) (st' := []) rfl ?_
        refine x_lv (a := [(4, .int (nI i)), (0, .ref (X.1 28)), (1, .ref (X.1 0)), (2, .ref (X.1 8)), (3, .ref (X.1 27))]) rfl rfl ⟨rfl, rfl, rfl, rfl, rfl, trivial⟩ ?_
        exact kk _ h R
      · exact absurd (hb (by assumption)) c3
  · exact absurd rfl c1
theorem s_real {t : Nat} {Q : mm_O × mm_H → Prop} (R : Rep (u + 17) (v + 1020 + 1020) X P P z h) (hI : Inv (t + 1) P) (h0 : X.2.1 = 0) (hl : i + 5 ≤ X.2.2.1) (hL : X.2.2.1 ≤ 2560) (kk : ∀ (X' : xX) (P' : pP) (z : zZ) (h : mm_H), Rep u v X' P' P' z h → Inv t P' → X'.2 = X.2 → (∀ t, t < 29 → X'.1 t = X.1 t) → Wx (d + 9) 110 1234 [(4, .int (nI i)), (0, .ref (X'.1 28)), (1, .ref (X'.1 0)), (2, .ref (X'.1 8)), (3, .ref (X'.1 27))] [] h Q) : Wx (d + 9) 110 475 [(4, .int (nI i)), (0, .ref (X.1 28)), (1, .ref (X.1 0)), (2, .ref (X.1 8)), (3, .ref (X.1 27))] [] h Q := by
  obtain ⟨o, hI2, ho, wc, wm⟩ := op_real hI R.wP (X.2.2.2 (i + 1)) (lgA (X.2.2.2 (i + 2)) (X.2.2.2 (i + 3)))
  refine x_run 5 (pc' := 481) (lv' := [(4, .int (nI i)), (0, .ref (X.1 28)), (1, .ref (X.1 0)), (2, .ref (X.1 8)), (3, .ref (X.1 27))]) (st' := [.int ((nI i) + (nI 1)), .ref (X.1 28), .ref (X.1 0)]) rfl ?_
  rw [nI_add]
  refine x_sald (j := i + 1) rfl R.c28 (mm_idx_nI (by omega) (by omega)) ?_
  refine x_run 4 (pc' := 487) (lv' := [(4, .int (nI i)), (0, .ref (X.1 28)), (1, .ref (X.1 0)), (2, .ref (X.1 8)), (3, .ref (X.1 27))]) (st' := [.int ((nI i) + (nI 2)), .ref (X.1 28), .int (X.2.2.2 (i + 1)), .ref (X.1 0)]) rfl ?_
  rw [nI_add]
  refine x_sald (j := i + 2) rfl R.c28 (mm_idx_nI (by omega) (by omega)) ?_
  refine x_run 7 (pc' := 497) (lv' := [(4, .int (nI i)), (0, .ref (X.1 28)), (1, .ref (X.1 0)), (2, .ref (X.1 8)), (3, .ref (X.1 27))]) (st' := [.int ((nI i) + (nI 3)), .ref (X.1 28), .long (((X.2.2.2 (i + 2)).toInt64) <<< ((32 : Int32).toInt64 &&& 63)), .int (X.2.2.2 (i + 1)), .ref (X.1 0)]) rfl ?_
  rw [nI_add]
  refine x_sald (j := i + 3) rfl R.c28 (mm_idx_nI (by omega) (by omega)) ?_
  refine x_run 1 (pc' := 499) (lv' := [(4, .int (nI i)), (0, .ref (X.1 28)), (1, .ref (X.1 0)), (2, .ref (X.1 8)), (3, .ref (X.1 27))]) (st' := [.long ((X.2.2.2 (i + 3)).toInt64), .long (((X.2.2.2 (i + 2)).toInt64) <<< ((32 : Int32).toInt64 &&& 63)), .int (X.2.2.2 (i + 1)), .ref (X.1 0)]) rfl ?_
  refine x_ldc2 (x := 4294967295) rfl rfl ?_
  refine x_run 3 (pc' := 505) (lv' := [(4, .int (nI i)), (0, .ref (X.1 28)), (1, .ref (X.1 0)), (2, .ref (X.1 8)), (3, .ref (X.1 27))]) (st' := [.ref (X.1 27), .long ((((X.2.2.2 (i + 2)).toInt64) <<< ((32 : Int32).toInt64 &&& 63)) ||| (((X.2.2.2 (i + 3)).toInt64) &&& 4294967295)), .int (X.2.2.2 (i + 1)), .ref (X.1 0)]) rfl ?_
  refine x_wr (v := .int (cd 7 5 6 99 o.1)) (A := RX u (v + 1020) X P (zo o z) o.2.2) (k' := 99) (as := [.ref (X.1 0), .int (X.2.2.2 (i + 1)), .long (lgA (X.2.2.2 (i + 2)) (X.2.2.2 (i + 3))), .ref (X.1 27)]) (rest := []) (x_isS (np := 4) rfl rfl rfl rfl rfl) (h_real R (wc u (v + 1020) X P z h d R h0) ho) (fun h R => ?_)
  obtain ⟨X2, R, eX, eT⟩ := R
  refine x_lv (a := [(4, .int (nI i)), (0, .ref (X.1 28)), (1, .ref (X.1 0)), (2, .ref (X.1 8)), (3, .ref (X.1 27))]) rfl rfl ⟨rfl, rfl, rfl, rfl, rfl, trivial⟩ ?_
  rw [← eT 0 (by omega), ← eT 8 (by omega), ← eT 27 (by omega), ← eT 28 (by omega)]
  refine s2_real (X := X2) R (by rw [eX]; exact hl) (by rw [eX]; exact hL) (by rw [eX]; exact (wm u v X2 o.2.2 (zo o z) h (d + 1) R).mono (fun r e => mC_L (by decide) ho e)) (fun z h R => kk X2 o.2.2 z h R hI2 eX eT)
theorem s2_contest {P' : pP} {c : Int32} {Q : mm_O × mm_H → Prop} (R : Rep u (v + 1020) X P' P z h) (hl : i + 5 ≤ X.2.2.1) (hL : X.2.2.1 ≤ 2560) (wm : Wx (d + 8) 76 0 (lv_args 0 [.ref (X.1 8), .int (X.2.2.2 (i + 1))]) [] h (fun r => r.1 = .inl none ∧ ∃ s, Rep u v X P' P' (c, s) r.2)) (kk : ∀ z h, Rep u v X P' P' z h → Wx (d + 9) 110 1234 [(4, .int (nI i)), (0, .ref (X.1 28)), (1, .ref (X.1 0)), (2, .ref (X.1 8)), (3, .ref (X.1 27))] [] h Q) : Wx (d + 9) 110 584 [(4, .int (nI i)), (0, .ref (X.1 28)), (1, .ref (X.1 0)), (2, .ref (X.1 8)), (3, .ref (X.1 27))] [.int c] h Q := by
  refine x_run 6 (pc' := 592) (lv' := [(5, .int (c)), (4, .int (nI i)), (0, .ref (X.1 28)), (1, .ref (X.1 0)), (2, .ref (X.1 8)), (3, .ref (X.1 27))]) (st' := [.int ((nI i) + (nI 1)), .ref (X.1 28), .ref (X.1 8)]) rfl ?_
  rw [nI_add]
  refine x_sald (j := i + 1) rfl R.c28 (mm_idx_nI (by omega) (by omega)) ?_
  refine x_wr0 (A := fun h => ∃ s, Rep u v X P' P' (c, s) h) (k' := 76) (as := [.ref (X.1 8), .int (X.2.2.2 (i + 1))]) (rest := []) (x_isV (np := 1) rfl rfl rfl R.c8 rfl) wm (fun h R => ?_)
  obtain ⟨s, R⟩ := R
  refine x_run 1 (pc' := 597) (lv' := [(5, .int (c)), (4, .int (nI i)), (0, .ref (X.1 28)), (1, .ref (X.1 0)), (2, .ref (X.1 8)), (3, .ref (X.1 27))]) (st' := [.ref (X.1 8)]) rfl ?_
  refine x_rd (v := .int (c)) (k' := 54) (as := [.ref (X.1 8)]) (rest := []) (x_isV (np := 0) rfl rfl rfl R.c8 rfl) (k_thrown R) ?_
  refine x_run 1 (pc' := 602) (lv' := [(5, .int (c)), (4, .int (nI i)), (0, .ref (X.1 28)), (1, .ref (X.1 0)), (2, .ref (X.1 8)), (3, .ref (X.1 27))]) (st' := [.int (c), .int (c)]) rfl ?_
  refine x_if (c := c = c) (t := 607) rfl rfl (fun c1 => ?_) (fun c1 => ?_)
  · refine x_run 1 (pc' := 1234) (lv' := [(5, .int (c)), (4, .int (nI i)), (0, .ref (X.1 28)), (1, .ref (X.1 0)), (2, .ref (X.1 8)), (3, .ref (X.1 27))]) (st' := []) rfl ?_
    refine x_lv (a := [(4, .int (nI i)), (0, .ref (X.1 28)), (1, .ref (X.1 0)), (2, .ref (X.1 8)), (3, .ref (X.1 27))]) rfl rfl ⟨rfl, rfl, rfl, rfl, rfl, trivial⟩ ?_
    exact kk _ h R
  · exact absurd rfl c1
theorem s_contest {t : Nat} {Q : mm_O × mm_H → Prop} (R : Rep (u + 17) (v + 1020 + 1020) X P P z h) (hI : Inv (t + 1) P) (h0 : X.2.1 = 0) (hl : i + 5 ≤ X.2.2.1) (hL : X.2.2.1 ≤ 2560) (kk : ∀ (X' : xX) (P' : pP) (z : zZ) (h : mm_H), Rep u v X' P' P' z h → Inv t P' → X'.2 = X.2 → (∀ t, t < 29 → X'.1 t = X.1 t) → Wx (d + 9) 110 1234 [(4, .int (nI i)), (0, .ref (X'.1 28)), (1, .ref (X'.1 0)), (2, .ref (X'.1 8)), (3, .ref (X'.1 27))] [] h Q) : Wx (d + 9) 110 574 [(4, .int (nI i)), (0, .ref (X.1 28)), (1, .ref (X.1 0)), (2, .ref (X.1 8)), (3, .ref (X.1 27))] [] h Q := by
  obtain ⟨o, hI2, ho, wc, wm⟩ := op_contest hI R.wP (X.2.2.2 (i + 1))
  refine x_run 5 (pc' := 580) (lv' := [(4, .int (nI i)), (0, .ref (X.1 28)), (1, .ref (X.1 0)), (2, .ref (X.1 8)), (3, .ref (X.1 27))]) (st' := [.int ((nI i) + (nI 1)), .ref (X.1 28), .ref (X.1 0)]) rfl ?_
  rw [nI_add]
  refine x_sald (j := i + 1) rfl R.c28 (mm_idx_nI (by omega) (by omega)) ?_
  refine x_wr (v := .int (cd 7 6 99 99 o.1)) (A := RX u (v + 1020) X P z o.2.2) (k' := 100) (as := [.ref (X.1 0), .int (X.2.2.2 (i + 1))]) (rest := []) (x_isS (np := 2) rfl rfl rfl rfl rfl) (h_contest R (wc u (v + 1020) X P z h d R h0) ho) (fun h R => ?_)
  obtain ⟨X2, R, eX, eT⟩ := R
  refine x_lv (a := [(4, .int (nI i)), (0, .ref (X.1 28)), (1, .ref (X.1 0)), (2, .ref (X.1 8)), (3, .ref (X.1 27))]) rfl rfl ⟨rfl, rfl, rfl, rfl, rfl, trivial⟩ ?_
  rw [← eT 0 (by omega), ← eT 8 (by omega), ← eT 27 (by omega), ← eT 28 (by omega)]
  refine s2_contest (X := X2) R (by rw [eX]; exact hl) (by rw [eX]; exact hL) (by rw [eX]; exact (wm u v X2 o.2.2 z h (d + 1) R).mono (fun r e => mC_N (by decide) ho e)) (fun z h R => kk X2 o.2.2 z h R hI2 eX eT)
theorem s2_settle {P' : pP} {c : Int32} {Q : mm_O × mm_H → Prop} (R : Rep u (v + 1020) X P' P z h) (hl : i + 5 ≤ X.2.2.1) (hL : X.2.2.1 ≤ 2560) (wm : Wx (d + 8) 77 0 (lv_args 0 [.ref (X.1 8), .int (X.2.2.2 (i + 1)), .long (lgA (X.2.2.2 (i + 2)) (X.2.2.2 (i + 3)))]) [] h (fun r => ∃ b, r.1 = .inl (some (.long b)) ∧ mA u v X P' c b r.2)) (kk : ∀ z h, Rep u v X P' P' z h → Wx (d + 9) 110 1234 [(4, .int (nI i)), (0, .ref (X.1 28)), (1, .ref (X.1 0)), (2, .ref (X.1 8)), (3, .ref (X.1 27))] [] h Q) : Wx (d + 9) 110 643 [(4, .int (nI i)), (0, .ref (X.1 28)), (1, .ref (X.1 0)), (2, .ref (X.1 8)), (3, .ref (X.1 27))] [.int c] h Q := by
  refine x_run 6 (pc' := 651) (lv' := [(5, .int (c)), (4, .int (nI i)), (0, .ref (X.1 28)), (1, .ref (X.1 0)), (2, .ref (X.1 8)), (3, .ref (X.1 27))]) (st' := [.int ((nI i) + (nI 1)), .ref (X.1 28), .ref (X.1 8)]) rfl ?_
  rw [nI_add]
  refine x_sald (j := i + 1) rfl R.c28 (mm_idx_nI (by omega) (by omega)) ?_
  refine x_run 4 (pc' := 657) (lv' := [(5, .int (c)), (4, .int (nI i)), (0, .ref (X.1 28)), (1, .ref (X.1 0)), (2, .ref (X.1 8)), (3, .ref (X.1 27))]) (st' := [.int ((nI i) + (nI 2)), .ref (X.1 28), .int (X.2.2.2 (i + 1)), .ref (X.1 8)]) rfl ?_
  rw [nI_add]
  refine x_sald (j := i + 2) rfl R.c28 (mm_idx_nI (by omega) (by omega)) ?_
  refine x_run 7 (pc' := 667) (lv' := [(5, .int (c)), (4, .int (nI i)), (0, .ref (X.1 28)), (1, .ref (X.1 0)), (2, .ref (X.1 8)), (3, .ref (X.1 27))]) (st' := [.int ((nI i) + (nI 3)), .ref (X.1 28), .long (((X.2.2.2 (i + 2)).toInt64) <<< ((32 : Int32).toInt64 &&& 63)), .int (X.2.2.2 (i + 1)), .ref (X.1 8)]) rfl ?_
  rw [nI_add]
  refine x_sald (j := i + 3) rfl R.c28 (mm_idx_nI (by omega) (by omega)) ?_
  refine x_run 1 (pc' := 669) (lv' := [(5, .int (c)), (4, .int (nI i)), (0, .ref (X.1 28)), (1, .ref (X.1 0)), (2, .ref (X.1 8)), (3, .ref (X.1 27))]) (st' := [.long ((X.2.2.2 (i + 3)).toInt64), .long (((X.2.2.2 (i + 2)).toInt64) <<< ((32 : Int32).toInt64 &&& 63)), .int (X.2.2.2 (i + 1)), .ref (X.1 8)]) rfl ?_
  refine x_ldc2 (x := 4294967295) rfl rfl ?_
  refine x_run 2 (pc' := 674) (lv' := [(5, .int (c)), (4, .int (nI i)), (0, .ref (X.1 28)), (1, .ref (X.1 0)), (2, .ref (X.1 8)), (3, .ref (X.1 27))]) (st' := [.long ((((X.2.2.2 (i + 2)).toInt64) <<< ((32 : Int32).toInt64 &&& 63)) ||| (((X.2.2.2 (i + 3)).toInt64) &&& 4294967295)), .int (X.2.2.2 (i + 1)), .ref (X.1 8)]) rfl ?_
  refine x_wrE (f := Value.long) (A := fun b => mA u v X P' c b) (k' := 77) (as := [.ref (X.1 8), .int (X.2.2.2 (i + 1)), .long (lgA (X.2.2.2 (i + 2)) (X.2.2.2 (i + 3)))]) (rest := []) (x_isV (np := 2) rfl rfl rfl R.c8 rfl) wm (fun b h R => ?_)
  obtain ⟨s, hb, R⟩ := R
  refine x_run 2 (pc' := 680) (lv' := [(6, .long (b)), (5, .int (c)), (4, .int (nI i)), (0, .ref (X.1 28)), (1, .ref (X.1 0)), (2, .ref (X.1 8)), (3, .ref (X.1 27))]) (st' := [.ref (X.1 8)]) rfl ?_
  refine x_rd (v := .int (c)) (k' := 54) (as := [.ref (X.1 8)]) (rest := []) (x_isV (np := 0) rfl rfl rfl R.c8 rfl) (k_thrown R) ?_
  refine x_run 1 (pc' := 685) (lv' := [(6, .long (b)), (5, .int (c)), (4, .int (nI i)), (0, .ref (X.1 28)), (1, .ref (X.1 0)), (2, .ref (X.1 8)), (3, .ref (X.1 27))]) (st' := [.int (c), .int (c)]) rfl ?_
  refine x_if (c := c = c) (t := 690) rfl rfl (fun c1 => ?_) (fun c1 => ?_)
  · refine x_run 1 (pc' := 692) (lv' := [(6, .long (b)), (5, .int (c)), (4, .int (nI i)), (0, .ref (X.1 28)), (1, .ref (X.1 0)), (2, .ref (X.1 8)), (3, .ref (X.1 27))]) (st' := [.int (c)]) rfl ?_
    refine x_if (c := ¬ c = 0) (t := 706) rfl rfl (fun c2 => ?_) (fun c2 => ?_)
    · refine x_run 1 (pc' := 1234) (lv' := [(6, .long (b)), (5, .int (c)), (4, .int (nI i)), (0, .ref (X.1 28)), (1, .ref (X.1 0)), (2, .ref (X.1 8)), (3, .ref (X.1 27))]) (st' := []) rfl ?_
      refine x_lv (a := [(4, .int (nI i)), (0, .ref (X.1 28)), (1, .ref (X.1 0)), (2, .ref (X.1 8)), (3, .ref (X.1 27))]) rfl rfl ⟨rfl, rfl, rfl, rfl, rfl, trivial⟩ ?_
      exact kk _ h R
    · replace c2 := Classical.not_not.mp c2
      refine x_run 2 (pc' := 697) (lv' := [(6, .long (b)), (5, .int (c)), (4, .int (nI i)), (0, .ref (X.1 28)), (1, .ref (X.1 0)), (2, .ref (X.1 8)), (3, .ref (X.1 27))]) (st' := [.int (0), .ref (X.1 27)]) rfl ?_
      refine x_lald (j := 0) rfl R.c27 (mm_idx_nI (i := 0) (by omega) (by omega)) ?_
      refine x_run 1 (pc' := 700) (lv' := [(6, .long (b)), (5, .int (c)), (4, .int (nI i)), (0, .ref (X.1 28)), (1, .ref (X.1 0)), (2, .ref (X.1 8)), (3, .ref (X.1 27))]) (st' := [.long (b), .long (((c, s)).2 5 0)]) rfl ?_
      refine x_leq (t := 706) rfl rfl rfl (fun c3 => ?_) (fun c3 => ?_)
      · refine x_run 1 (pc' := 1234) (lv' := [(6, .long (b)), (5, .int (c)), (4, .int (nI i)), (0, .ref (X.1 28)), (1, .ref (X.1 0)), (2, .ref (X.1 8)), (3, .ref (X.1 27))]) (st' := []) rfl ?_
        refine x_lv (a := [(4, .int (nI i)), (0, .ref (X.1 28)), (1, .ref (X.1 0)), (2, .ref (X.1 8)), (3, .ref (X.1 27))]) rfl rfl ⟨rfl, rfl, rfl, rfl, rfl, trivial⟩ ?_
        exact kk _ h R
      · exact absurd (hb (by assumption)) c3
  · exact absurd rfl c1
theorem s_settle {t : Nat} {Q : mm_O × mm_H → Prop} (R : Rep (u + 17) (v + 1020 + 1020) X P P z h) (hI : Inv (t + 1) P) (h0 : X.2.1 = 0) (hl : i + 5 ≤ X.2.2.1) (hL : X.2.2.1 ≤ 2560) (kk : ∀ (X' : xX) (P' : pP) (z : zZ) (h : mm_H), Rep u v X' P' P' z h → Inv t P' → X'.2 = X.2 → (∀ t, t < 29 → X'.1 t = X.1 t) → Wx (d + 9) 110 1234 [(4, .int (nI i)), (0, .ref (X'.1 28)), (1, .ref (X'.1 0)), (2, .ref (X'.1 8)), (3, .ref (X'.1 27))] [] h Q) : Wx (d + 9) 110 610 [(4, .int (nI i)), (0, .ref (X.1 28)), (1, .ref (X.1 0)), (2, .ref (X.1 8)), (3, .ref (X.1 27))] [] h Q := by
  obtain ⟨o, hI2, ho, wc, wm⟩ := op_settle hI R.wP (X.2.2.2 (i + 1)) (lgA (X.2.2.2 (i + 2)) (X.2.2.2 (i + 3)))
  refine x_run 5 (pc' := 616) (lv' := [(4, .int (nI i)), (0, .ref (X.1 28)), (1, .ref (X.1 0)), (2, .ref (X.1 8)), (3, .ref (X.1 27))]) (st' := [.int ((nI i) + (nI 1)), .ref (X.1 28), .ref (X.1 0)]) rfl ?_
  rw [nI_add]
  refine x_sald (j := i + 1) rfl R.c28 (mm_idx_nI (by omega) (by omega)) ?_
  refine x_run 4 (pc' := 622) (lv' := [(4, .int (nI i)), (0, .ref (X.1 28)), (1, .ref (X.1 0)), (2, .ref (X.1 8)), (3, .ref (X.1 27))]) (st' := [.int ((nI i) + (nI 2)), .ref (X.1 28), .int (X.2.2.2 (i + 1)), .ref (X.1 0)]) rfl ?_
  rw [nI_add]
  refine x_sald (j := i + 2) rfl R.c28 (mm_idx_nI (by omega) (by omega)) ?_
  refine x_run 7 (pc' := 632) (lv' := [(4, .int (nI i)), (0, .ref (X.1 28)), (1, .ref (X.1 0)), (2, .ref (X.1 8)), (3, .ref (X.1 27))]) (st' := [.int ((nI i) + (nI 3)), .ref (X.1 28), .long (((X.2.2.2 (i + 2)).toInt64) <<< ((32 : Int32).toInt64 &&& 63)), .int (X.2.2.2 (i + 1)), .ref (X.1 0)]) rfl ?_
  rw [nI_add]
  refine x_sald (j := i + 3) rfl R.c28 (mm_idx_nI (by omega) (by omega)) ?_
  refine x_run 1 (pc' := 634) (lv' := [(4, .int (nI i)), (0, .ref (X.1 28)), (1, .ref (X.1 0)), (2, .ref (X.1 8)), (3, .ref (X.1 27))]) (st' := [.long ((X.2.2.2 (i + 3)).toInt64), .long (((X.2.2.2 (i + 2)).toInt64) <<< ((32 : Int32).toInt64 &&& 63)), .int (X.2.2.2 (i + 1)), .ref (X.1 0)]) rfl ?_
  refine x_ldc2 (x := 4294967295) rfl rfl ?_
  refine x_run 3 (pc' := 640) (lv' := [(4, .int (nI i)), (0, .ref (X.1 28)), (1, .ref (X.1 0)), (2, .ref (X.1 8)), (3, .ref (X.1 27))]) (st' := [.ref (X.1 27), .long ((((X.2.2.2 (i + 2)).toInt64) <<< ((32 : Int32).toInt64 &&& 63)) ||| (((X.2.2.2 (i + 3)).toInt64) &&& 4294967295)), .int (X.2.2.2 (i + 1)), .ref (X.1 0)]) rfl ?_
  refine x_wr (v := .int (cd 7 5 6 99 o.1)) (A := RX u (v + 1020) X P (zo o z) o.2.2) (k' := 101) (as := [.ref (X.1 0), .int (X.2.2.2 (i + 1)), .long (lgA (X.2.2.2 (i + 2)) (X.2.2.2 (i + 3))), .ref (X.1 27)]) (rest := []) (x_isS (np := 4) rfl rfl rfl rfl rfl) (h_settle R (wc u (v + 1020) X P z h d R h0) ho) (fun h R => ?_)
  obtain ⟨X2, R, eX, eT⟩ := R
  refine x_lv (a := [(4, .int (nI i)), (0, .ref (X.1 28)), (1, .ref (X.1 0)), (2, .ref (X.1 8)), (3, .ref (X.1 27))]) rfl rfl ⟨rfl, rfl, rfl, rfl, rfl, trivial⟩ ?_
  rw [← eT 0 (by omega), ← eT 8 (by omega), ← eT 27 (by omega), ← eT 28 (by omega)]
  refine s2_settle (X := X2) R (by rw [eX]; exact hl) (by rw [eX]; exact hL) (by rw [eX]; exact (wm u v X2 o.2.2 (zo o z) h (d + 1) R).mono (fun r e => mC_L (by decide) ho e)) (fun z h R => kk X2 o.2.2 z h R hI2 eX eT)
theorem s2_cost {P' : pP} {c : Int32} {Q : mm_O × mm_H → Prop} (R : Rep u (v + 1020) X P' P z h) (hl : i + 5 ≤ X.2.2.1) (hL : X.2.2.1 ≤ 2560) (wm : Wx (d + 8) 78 0 (lv_args 0 [.ref (X.1 8), .long (lgA (X.2.2.2 (i + 1)) (X.2.2.2 (i + 2)))]) [] h (fun r => ∃ b, r.1 = .inl (some (.long b)) ∧ mA u v X P' c b r.2)) (kk : ∀ z h, Rep u v X P' P' z h → Wx (d + 9) 110 1234 [(4, .int (nI i)), (0, .ref (X.1 28)), (1, .ref (X.1 0)), (2, .ref (X.1 8)), (3, .ref (X.1 27))] [] h Q) : Wx (d + 9) 110 736 [(4, .int (nI i)), (0, .ref (X.1 28)), (1, .ref (X.1 0)), (2, .ref (X.1 8)), (3, .ref (X.1 27))] [.int c] h Q := by
  refine x_run 6 (pc' := 744) (lv' := [(5, .int (c)), (4, .int (nI i)), (0, .ref (X.1 28)), (1, .ref (X.1 0)), (2, .ref (X.1 8)), (3, .ref (X.1 27))]) (st' := [.int ((nI i) + (nI 1)), .ref (X.1 28), .ref (X.1 8)]) rfl ?_
  rw [nI_add]
  refine x_sald (j := i + 1) rfl R.c28 (mm_idx_nI (by omega) (by omega)) ?_
  refine x_run 7 (pc' := 754) (lv' := [(5, .int (c)), (4, .int (nI i)), (0, .ref (X.1 28)), (1, .ref (X.1 0)), (2, .ref (X.1 8)), (3, .ref (X.1 27))]) (st' := [.int ((nI i) + (nI 2)), .ref (X.1 28), .long (((X.2.2.2 (i + 1)).toInt64) <<< ((32 : Int32).toInt64 &&& 63)), .ref (X.1 8)]) rfl ?_
  rw [nI_add]
  refine x_sald (j := i + 2) rfl R.c28 (mm_idx_nI (by omega) (by omega)) ?_
  refine x_run 1 (pc' := 756) (lv' := [(5, .int (c)), (4, .int (nI i)), (0, .ref (X.1 28)), (1, .ref (X.1 0)), (2, .ref (X.1 8)), (3, .ref (X.1 27))]) (st' := [.long ((X.2.2.2 (i + 2)).toInt64), .long (((X.2.2.2 (i + 1)).toInt64) <<< ((32 : Int32).toInt64 &&& 63)), .ref (X.1 8)]) rfl ?_
  refine x_ldc2 (x := 4294967295) rfl rfl ?_
  refine x_run 2 (pc' := 761) (lv' := [(5, .int (c)), (4, .int (nI i)), (0, .ref (X.1 28)), (1, .ref (X.1 0)), (2, .ref (X.1 8)), (3, .ref (X.1 27))]) (st' := [.long ((((X.2.2.2 (i + 1)).toInt64) <<< ((32 : Int32).toInt64 &&& 63)) ||| (((X.2.2.2 (i + 2)).toInt64) &&& 4294967295)), .ref (X.1 8)]) rfl ?_
  refine x_wrE (f := Value.long) (A := fun b => mA u v X P' c b) (k' := 78) (as := [.ref (X.1 8), .long (lgA (X.2.2.2 (i + 1)) (X.2.2.2 (i + 2)))]) (rest := []) (x_isV (np := 1) rfl rfl rfl R.c8 rfl) wm (fun b h R => ?_)
  obtain ⟨s, hb, R⟩ := R
  refine x_run 2 (pc' := 767) (lv' := [(6, .long (b)), (5, .int (c)), (4, .int (nI i)), (0, .ref (X.1 28)), (1, .ref (X.1 0)), (2, .ref (X.1 8)), (3, .ref (X.1 27))]) (st' := [.ref (X.1 8)]) rfl ?_
  refine x_rd (v := .int (c)) (k' := 54) (as := [.ref (X.1 8)]) (rest := []) (x_isV (np := 0) rfl rfl rfl R.c8 rfl) (k_thrown R) ?_
  refine x_run 1 (pc' := 772) (lv' := [(6, .long (b)), (5, .int (c)), (4, .int (nI i)), (0, .ref (X.1 28)), (1, .ref (X.1 0)), (2, .ref (X.1 8)), (3, .ref (X.1 27))]) (st' := [.int (c), .int (c)]) rfl ?_
  refine x_if (c := c = c) (t := 777) rfl rfl (fun c1 => ?_) (fun c1 => ?_)
  · refine x_run 1 (pc' := 779) (lv' := [(6, .long (b)), (5, .int (c)), (4, .int (nI i)), (0, .ref (X.1 28)), (1, .ref (X.1 0)), (2, .ref (X.1 8)), (3, .ref (X.1 27))]) (st' := [.int (c)]) rfl ?_
    refine x_if (c := ¬ c = 0) (t := 793) rfl rfl (fun c2 => ?_) (fun c2 => ?_)
    · refine x_run 1 (pc' := 1234) (lv' := [(6, .long (b)), (5, .int (c)), (4, .int (nI i)), (0, .ref (X.1 28)), (1, .ref (X.1 0)), (2, .ref (X.1 8)), (3, .ref (X.1 27))]) (st' := []) rfl ?_
      refine x_lv (a := [(4, .int (nI i)), (0, .ref (X.1 28)), (1, .ref (X.1 0)), (2, .ref (X.1 8)), (3, .ref (X.1 27))]) rfl rfl ⟨rfl, rfl, rfl, rfl, rfl, trivial⟩ ?_
      exact kk _ h R
    · replace c2 := Classical.not_not.mp c2
      refine x_run 2 (pc' := 784) (lv' := [(6, .long (b)), (5, .int (c)), (4, .int (nI i)), (0, .ref (X.1 28)), (1, .ref (X.1 0)), (2, .ref (X.1 8)), (3, .ref (X.1 27))]) (st' := [.int (0), .ref (X.1 27)]) rfl ?_
      refine x_lald (j := 0) rfl R.c27 (mm_idx_nI (i := 0) (by omega) (by omega)) ?_
      refine x_run 1 (pc' := 787) (lv' := [(6, .long (b)), (5, .int (c)), (4, .int (nI i)), (0, .ref (X.1 28)), (1, .ref (X.1 0)), (2, .ref (X.1 8)), (3, .ref (X.1 27))]) (st' := [.long (b), .long (((c, s)).2 5 0)]) rfl ?_
      refine x_leq (t := 793) rfl rfl rfl (fun c3 => ?_) (fun c3 => ?_)
      · refine x_run 1 (pc' := 1234) (lv' := [(6, .long (b)), (5, .int (c)), (4, .int (nI i)), (0, .ref (X.1 28)), (1, .ref (X.1 0)), (2, .ref (X.1 8)), (3, .ref (X.1 27))]) (st' := []) rfl ?_
        refine x_lv (a := [(4, .int (nI i)), (0, .ref (X.1 28)), (1, .ref (X.1 0)), (2, .ref (X.1 8)), (3, .ref (X.1 27))]) rfl rfl ⟨rfl, rfl, rfl, rfl, rfl, trivial⟩ ?_
        exact kk _ h R
      · exact absurd (hb (by assumption)) c3
  · exact absurd rfl c1
theorem s_cost {t : Nat} {Q : mm_O × mm_H → Prop} (R : Rep (u + 17) (v + 1020 + 1020) X P P z h) (hI : Inv (t + 1) P) (h0 : X.2.1 = 0) (hl : i + 5 ≤ X.2.2.1) (hL : X.2.2.1 ≤ 2560) (kk : ∀ (X' : xX) (P' : pP) (z : zZ) (h : mm_H), Rep u v X' P' P' z h → Inv t P' → X'.2 = X.2 → (∀ t, t < 29 → X'.1 t = X.1 t) → Wx (d + 9) 110 1234 [(4, .int (nI i)), (0, .ref (X'.1 28)), (1, .ref (X'.1 0)), (2, .ref (X'.1 8)), (3, .ref (X'.1 27))] [] h Q) : Wx (d + 9) 110 709 [(4, .int (nI i)), (0, .ref (X.1 28)), (1, .ref (X.1 0)), (2, .ref (X.1 8)), (3, .ref (X.1 27))] [] h Q := by
  obtain ⟨o, hI2, ho, wc, wm⟩ := op_cost hI R.wP (lgA (X.2.2.2 (i + 1)) (X.2.2.2 (i + 2)))
  refine x_run 5 (pc' := 715) (lv' := [(4, .int (nI i)), (0, .ref (X.1 28)), (1, .ref (X.1 0)), (2, .ref (X.1 8)), (3, .ref (X.1 27))]) (st' := [.int ((nI i) + (nI 1)), .ref (X.1 28), .ref (X.1 0)]) rfl ?_
  rw [nI_add]
  refine x_sald (j := i + 1) rfl R.c28 (mm_idx_nI (by omega) (by omega)) ?_
  refine x_run 7 (pc' := 725) (lv' := [(4, .int (nI i)), (0, .ref (X.1 28)), (1, .ref (X.1 0)), (2, .ref (X.1 8)), (3, .ref (X.1 27))]) (st' := [.int ((nI i) + (nI 2)), .ref (X.1 28), .long (((X.2.2.2 (i + 1)).toInt64) <<< ((32 : Int32).toInt64 &&& 63)), .ref (X.1 0)]) rfl ?_
  rw [nI_add]
  refine x_sald (j := i + 2) rfl R.c28 (mm_idx_nI (by omega) (by omega)) ?_
  refine x_run 1 (pc' := 727) (lv' := [(4, .int (nI i)), (0, .ref (X.1 28)), (1, .ref (X.1 0)), (2, .ref (X.1 8)), (3, .ref (X.1 27))]) (st' := [.long ((X.2.2.2 (i + 2)).toInt64), .long (((X.2.2.2 (i + 1)).toInt64) <<< ((32 : Int32).toInt64 &&& 63)), .ref (X.1 0)]) rfl ?_
  refine x_ldc2 (x := 4294967295) rfl rfl ?_
  refine x_run 3 (pc' := 733) (lv' := [(4, .int (nI i)), (0, .ref (X.1 28)), (1, .ref (X.1 0)), (2, .ref (X.1 8)), (3, .ref (X.1 27))]) (st' := [.ref (X.1 27), .long ((((X.2.2.2 (i + 1)).toInt64) <<< ((32 : Int32).toInt64 &&& 63)) ||| (((X.2.2.2 (i + 2)).toInt64) &&& 4294967295)), .ref (X.1 0)]) rfl ?_
  refine x_wr (v := .int (cd 5 6 99 99 o.1)) (A := RX u (v + 1020) X P (zo o z) o.2.2) (k' := 102) (as := [.ref (X.1 0), .long (lgA (X.2.2.2 (i + 1)) (X.2.2.2 (i + 2))), .ref (X.1 27)]) (rest := []) (x_isS (np := 3) rfl rfl rfl rfl rfl) (h_cost R (wc u (v + 1020) X P z h d R h0) ho) (fun h R => ?_)
  obtain ⟨X2, R, eX, eT⟩ := R
  refine x_lv (a := [(4, .int (nI i)), (0, .ref (X.1 28)), (1, .ref (X.1 0)), (2, .ref (X.1 8)), (3, .ref (X.1 27))]) rfl rfl ⟨rfl, rfl, rfl, rfl, rfl, trivial⟩ ?_
  rw [← eT 0 (by omega), ← eT 8 (by omega), ← eT 27 (by omega), ← eT 28 (by omega)]
  refine s2_cost (X := X2) R (by rw [eX]; exact hl) (by rw [eX]; exact hL) (by rw [eX]; exact (wm u v X2 o.2.2 (zo o z) h (d + 1) R).mono (fun r e => mC_L (by decide) ho e)) (fun z h R => kk X2 o.2.2 z h R hI2 eX eT)
theorem s2_div {P' : pP} {c : Int32} {Q : mm_O × mm_H → Prop} (R : Rep u (v + 1020) X P' P z h) (hl : i + 5 ≤ X.2.2.1) (hL : X.2.2.1 ≤ 2560) (wm : Wx (d + 8) 81 0 (lv_args 0 [.ref (X.1 8), .int (X.2.2.2 (i + 1)), .int (X.2.2.2 (i + 2))]) [] h (fun r => ∃ b, r.1 = .inl (some (.long b)) ∧ mA u v X P' c b r.2)) (kk : ∀ z h, Rep u v X P' P' z h → Wx (d + 9) 110 1234 [(4, .int (nI i)), (0, .ref (X.1 28)), (1, .ref (X.1 0)), (2, .ref (X.1 8)), (3, .ref (X.1 27))] [] h Q) : Wx (d + 9) 110 813 [(4, .int (nI i)), (0, .ref (X.1 28)), (1, .ref (X.1 0)), (2, .ref (X.1 8)), (3, .ref (X.1 27))] [.int c] h Q := by
  refine x_run 6 (pc' := 821) (lv' := [(5, .int (c)), (4, .int (nI i)), (0, .ref (X.1 28)), (1, .ref (X.1 0)), (2, .ref (X.1 8)), (3, .ref (X.1 27))]) (st' := [.int ((nI i) + (nI 1)), .ref (X.1 28), .ref (X.1 8)]) rfl ?_
  rw [nI_add]
  refine x_sald (j := i + 1) rfl R.c28 (mm_idx_nI (by omega) (by omega)) ?_
  refine x_run 4 (pc' := 827) (lv' := [(5, .int (c)), (4, .int (nI i)), (0, .ref (X.1 28)), (1, .ref (X.1 0)), (2, .ref (X.1 8)), (3, .ref (X.1 27))]) (st' := [.int ((nI i) + (nI 2)), .ref (X.1 28), .int (X.2.2.2 (i + 1)), .ref (X.1 8)]) rfl ?_
  rw [nI_add]
  refine x_sald (j := i + 2) rfl R.c28 (mm_idx_nI (by omega) (by omega)) ?_
  refine x_wrE (f := Value.long) (A := fun b => mA u v X P' c b) (k' := 81) (as := [.ref (X.1 8), .int (X.2.2.2 (i + 1)), .int (X.2.2.2 (i + 2))]) (rest := []) (x_isV (np := 2) rfl rfl rfl R.c8 rfl) wm (fun b h R => ?_)
  obtain ⟨s, hb, R⟩ := R
  refine x_run 2 (pc' := 834) (lv' := [(6, .long (b)), (5, .int (c)), (4, .int (nI i)), (0, .ref (X.1 28)), (1, .ref (X.1 0)), (2, .ref (X.1 8)), (3, .ref (X.1 27))]) (st' := [.ref (X.1 8)]) rfl ?_
  refine x_rd (v := .int (c)) (k' := 54) (as := [.ref (X.1 8)]) (rest := []) (x_isV (np := 0) rfl rfl rfl R.c8 rfl) (k_thrown R) ?_
  refine x_run 1 (pc' := 839) (lv' := [(6, .long (b)), (5, .int (c)), (4, .int (nI i)), (0, .ref (X.1 28)), (1, .ref (X.1 0)), (2, .ref (X.1 8)), (3, .ref (X.1 27))]) (st' := [.int (c), .int (c)]) rfl ?_
  refine x_if (c := c = c) (t := 844) rfl rfl (fun c1 => ?_) (fun c1 => ?_)
  · refine x_run 1 (pc' := 846) (lv' := [(6, .long (b)), (5, .int (c)), (4, .int (nI i)), (0, .ref (X.1 28)), (1, .ref (X.1 0)), (2, .ref (X.1 8)), (3, .ref (X.1 27))]) (st' := [.int (c)]) rfl ?_
    refine x_if (c := ¬ c = 0) (t := 860) rfl rfl (fun c2 => ?_) (fun c2 => ?_)
    · refine x_run 1 (pc' := 1234) (lv' := [(6, .long (b)), (5, .int (c)), (4, .int (nI i)), (0, .ref (X.1 28)), (1, .ref (X.1 0)), (2, .ref (X.1 8)), (3, .ref (X.1 27))]) (st' := []) rfl ?_
      refine x_lv (a := [(4, .int (nI i)), (0, .ref (X.1 28)), (1, .ref (X.1 0)), (2, .ref (X.1 8)), (3, .ref (X.1 27))]) rfl rfl ⟨rfl, rfl, rfl, rfl, rfl, trivial⟩ ?_
      exact kk _ h R
    · replace c2 := Classical.not_not.mp c2
      refine x_run 2 (pc' := 851) (lv' := [(6, .long (b)), (5, .int (c)), (4, .int (nI i)), (0, .ref (X.1 28)), (1, .ref (X.1 0)), (2, .ref (X.1 8)), (3, .ref (X.1 27))]) (st' := [.int (0), .ref (X.1 27)]) rfl ?_
      refine x_lald (j := 0) rfl R.c27 (mm_idx_nI (i := 0) (by omega) (by omega)) ?_
      refine x_run 1 (pc' := 854) (lv' := [(6, .long (b)), (5, .int (c)), (4, .int (nI i)), (0, .ref (X.1 28)), (1, .ref (X.1 0)), (2, .ref (X.1 8)), (3, .ref (X.1 27))]) (st' := [.long (b), .long (((c, s)).2 5 0)]) rfl ?_
      refine x_leq (t := 860) rfl rfl rfl (fun c3 => ?_) (fun c3 => ?_)
      · refine x_run 1 (pc' := 1234) (lv' := [(6, .long (b)), (5, .int (c)), (4, .int (nI i)), (0, .ref (X.1 28)), (1, .ref (X.1 0)), (2, .ref (X.1 8)), (3, .ref (X.1 27))]) (st' := []) rfl ?_
        refine x_lv (a := [(4, .int (nI i)), (0, .ref (X.1 28)), (1, .ref (X.1 0)), (2, .ref (X.1 8)), (3, .ref (X.1 27))]) rfl rfl ⟨rfl, rfl, rfl, rfl, rfl, trivial⟩ ?_
        exact kk _ h R
      · exact absurd (hb (by assumption)) c3
  · exact absurd rfl c1
theorem s_div {t : Nat} {Q : mm_O × mm_H → Prop} (R : Rep (u + 17) (v + 1020 + 1020) X P P z h) (hI : Inv (t + 1) P) (h0 : X.2.1 = 0) (hl : i + 5 ≤ X.2.2.1) (hL : X.2.2.1 ≤ 2560) (kk : ∀ (X' : xX) (P' : pP) (z : zZ) (h : mm_H), Rep u v X' P' P' z h → Inv t P' → X'.2 = X.2 → (∀ t, t < 29 → X'.1 t = X.1 t) → Wx (d + 9) 110 1234 [(4, .int (nI i)), (0, .ref (X'.1 28)), (1, .ref (X'.1 0)), (2, .ref (X'.1 8)), (3, .ref (X'.1 27))] [] h Q) : Wx (d + 9) 110 796 [(4, .int (nI i)), (0, .ref (X.1 28)), (1, .ref (X.1 0)), (2, .ref (X.1 8)), (3, .ref (X.1 27))] [] h Q := by
  obtain ⟨o, hI2, ho, wc, wm⟩ := op_div hI R.wP (X.2.2.2 (i + 1)) (X.2.2.2 (i + 2))
  refine x_run 5 (pc' := 802) (lv' := [(4, .int (nI i)), (0, .ref (X.1 28)), (1, .ref (X.1 0)), (2, .ref (X.1 8)), (3, .ref (X.1 27))]) (st' := [.int ((nI i) + (nI 1)), .ref (X.1 28), .ref (X.1 0)]) rfl ?_
  rw [nI_add]
  refine x_sald (j := i + 1) rfl R.c28 (mm_idx_nI (by omega) (by omega)) ?_
  refine x_run 4 (pc' := 808) (lv' := [(4, .int (nI i)), (0, .ref (X.1 28)), (1, .ref (X.1 0)), (2, .ref (X.1 8)), (3, .ref (X.1 27))]) (st' := [.int ((nI i) + (nI 2)), .ref (X.1 28), .int (X.2.2.2 (i + 1)), .ref (X.1 0)]) rfl ?_
  rw [nI_add]
  refine x_sald (j := i + 2) rfl R.c28 (mm_idx_nI (by omega) (by omega)) ?_
  refine x_run 1 (pc' := 810) (lv' := [(4, .int (nI i)), (0, .ref (X.1 28)), (1, .ref (X.1 0)), (2, .ref (X.1 8)), (3, .ref (X.1 27))]) (st' := [.ref (X.1 27), .int (X.2.2.2 (i + 2)), .int (X.2.2.2 (i + 1)), .ref (X.1 0)]) rfl ?_
  refine x_wr (v := .int (cd 5 6 8 99 o.1)) (A := RX u (v + 1020) X P (zo o z) o.2.2) (k' := 103) (as := [.ref (X.1 0), .int (X.2.2.2 (i + 1)), .int (X.2.2.2 (i + 2)), .ref (X.1 27)]) (rest := []) (x_isS (np := 4) rfl rfl rfl rfl rfl) (h_div R (wc u (v + 1020) X P z h d R h0) ho) (fun h R => ?_)
  obtain ⟨X2, R, eX, eT⟩ := R
  refine x_lv (a := [(4, .int (nI i)), (0, .ref (X.1 28)), (1, .ref (X.1 0)), (2, .ref (X.1 8)), (3, .ref (X.1 27))]) rfl rfl ⟨rfl, rfl, rfl, rfl, rfl, trivial⟩ ?_
  rw [← eT 0 (by omega), ← eT 8 (by omega), ← eT 27 (by omega), ← eT 28 (by omega)]
  refine s2_div (X := X2) R (by rw [eX]; exact hl) (by rw [eX]; exact hL) (by rw [eX]; exact (wm u v X2 o.2.2 (zo o z) h (d + 1) R).mono (fun r e => mC_L (by decide) ho e)) (fun z h R => kk X2 o.2.2 z h R hI2 eX eT)
theorem s2_greatest {P' : pP} {c : Int32} {Q : mm_O × mm_H → Prop} (R : Rep u (v + 1020) X P' P z h) (hl : i + 5 ≤ X.2.2.1) (hL : X.2.2.1 ≤ 2560) (wm : Wx (d + 8) 83 0 (lv_args 0 [.ref (X.1 8), .int (X.2.2.2 (i + 1))]) [] h (fun r => ∃ b, r.1 = .inl (some (.int b)) ∧ mA u v X P' c b.toInt64 r.2)) (kk : ∀ z h, Rep u v X P' P' z h → Wx (d + 9) 110 1234 [(4, .int (nI i)), (0, .ref (X.1 28)), (1, .ref (X.1 0)), (2, .ref (X.1 8)), (3, .ref (X.1 27))] [] h Q) : Wx (d + 9) 110 874 [(4, .int (nI i)), (0, .ref (X.1 28)), (1, .ref (X.1 0)), (2, .ref (X.1 8)), (3, .ref (X.1 27))] [.int c] h Q := by
  refine x_run 6 (pc' := 882) (lv' := [(5, .int (c)), (4, .int (nI i)), (0, .ref (X.1 28)), (1, .ref (X.1 0)), (2, .ref (X.1 8)), (3, .ref (X.1 27))]) (st' := [.int ((nI i) + (nI 1)), .ref (X.1 28), .ref (X.1 8)]) rfl ?_
  rw [nI_add]
  refine x_sald (j := i + 1) rfl R.c28 (mm_idx_nI (by omega) (by omega)) ?_
  refine x_wrE (f := Value.int) (A := fun b => mA u v X P' c b.toInt64) (k' := 83) (as := [.ref (X.1 8), .int (X.2.2.2 (i + 1))]) (rest := []) (x_isV (np := 1) rfl rfl rfl R.c8 rfl) wm (fun b h R => ?_)
  obtain ⟨s, hb, R⟩ := R
  refine x_run 2 (pc' := 889) (lv' := [(6, .int (b)), (5, .int (c)), (4, .int (nI i)), (0, .ref (X.1 28)), (1, .ref (X.1 0)), (2, .ref (X.1 8)), (3, .ref (X.1 27))]) (st' := [.ref (X.1 8)]) rfl ?_
  refine x_rd (v := .int (c)) (k' := 54) (as := [.ref (X.1 8)]) (rest := []) (x_isV (np := 0) rfl rfl rfl R.c8 rfl) (k_thrown R) ?_
  refine x_run 1 (pc' := 894) (lv' := [(6, .int (b)), (5, .int (c)), (4, .int (nI i)), (0, .ref (X.1 28)), (1, .ref (X.1 0)), (2, .ref (X.1 8)), (3, .ref (X.1 27))]) (st' := [.int (c), .int (c)]) rfl ?_
  refine x_if (c := c = c) (t := 899) rfl rfl (fun c1 => ?_) (fun c1 => ?_)
  · refine x_run 1 (pc' := 901) (lv' := [(6, .int (b)), (5, .int (c)), (4, .int (nI i)), (0, .ref (X.1 28)), (1, .ref (X.1 0)), (2, .ref (X.1 8)), (3, .ref (X.1 27))]) (st' := [.int (c)]) rfl ?_
    refine x_if (c := ¬ c = 0) (t := 916) rfl rfl (fun c2 => ?_) (fun c2 => ?_)
    · refine x_run 1 (pc' := 1234) (lv' := [(6, .int (b)), (5, .int (c)), (4, .int (nI i)), (0, .ref (X.1 28)), (1, .ref (X.1 0)), (2, .ref (X.1 8)), (3, .ref (X.1 27))]) (st' := []) rfl ?_
      refine x_lv (a := [(4, .int (nI i)), (0, .ref (X.1 28)), (1, .ref (X.1 0)), (2, .ref (X.1 8)), (3, .ref (X.1 27))]) rfl rfl ⟨rfl, rfl, rfl, rfl, rfl, trivial⟩ ?_
      exact kk _ h R
    · replace c2 := Classical.not_not.mp c2
      refine x_run 2 (pc' := 906) (lv' := [(6, .int (b)), (5, .int (c)), (4, .int (nI i)), (0, .ref (X.1 28)), (1, .ref (X.1 0)), (2, .ref (X.1 8)), (3, .ref (X.1 27))]) (st' := [.int (0), .ref (X.1 27)]) rfl ?_
      refine x_lald (j := 0) rfl R.c27 (mm_idx_nI (i := 0) (by omega) (by omega)) ?_
      refine x_run 2 (pc' := 910) (lv' := [(6, .int (b)), (5, .int (c)), (4, .int (nI i)), (0, .ref (X.1 28)), (1, .ref (X.1 0)), (2, .ref (X.1 8)), (3, .ref (X.1 27))]) (st' := [.long ((b).toInt64), .long (((c, s)).2 5 0)]) rfl ?_
      refine x_leq (t := 916) rfl rfl rfl (fun c3 => ?_) (fun c3 => ?_)
      · refine x_run 1 (pc' := 1234) (lv' := [(6, .int (b)), (5, .int (c)), (4, .int (nI i)), (0, .ref (X.1 28)), (1, .ref (X.1 0)), (2, .ref (X.1 8)), (3, .ref (X.1 27))]) (st' := []) rfl ?_
        refine x_lv (a := [(4, .int (nI i)), (0, .ref (X.1 28)), (1, .ref (X.1 0)), (2, .ref (X.1 8)), (3, .ref (X.1 27))]) rfl rfl ⟨rfl, rfl, rfl, rfl, rfl, trivial⟩ ?_
        exact kk _ h R
      · exact absurd (hb (by assumption)) c3
  · exact absurd rfl c1
theorem s_greatest {t : Nat} {Q : mm_O × mm_H → Prop} (R : Rep (u + 17) (v + 1020 + 1020) X P P z h) (hI : Inv (t + 1) P) (h0 : X.2.1 = 0) (hl : i + 5 ≤ X.2.2.1) (hL : X.2.2.1 ≤ 2560) (kk : ∀ (X' : xX) (P' : pP) (z : zZ) (h : mm_H), Rep u v X' P' P' z h → Inv t P' → X'.2 = X.2 → (∀ t, t < 29 → X'.1 t = X.1 t) → Wx (d + 9) 110 1234 [(4, .int (nI i)), (0, .ref (X'.1 28)), (1, .ref (X'.1 0)), (2, .ref (X'.1 8)), (3, .ref (X'.1 27))] [] h Q) : Wx (d + 9) 110 863 [(4, .int (nI i)), (0, .ref (X.1 28)), (1, .ref (X.1 0)), (2, .ref (X.1 8)), (3, .ref (X.1 27))] [] h Q := by
  obtain ⟨o, hI2, ho, wc, wm⟩ := op_greatest hI R.wP (X.2.2.2 (i + 1))
  refine x_run 5 (pc' := 869) (lv' := [(4, .int (nI i)), (0, .ref (X.1 28)), (1, .ref (X.1 0)), (2, .ref (X.1 8)), (3, .ref (X.1 27))]) (st' := [.int ((nI i) + (nI 1)), .ref (X.1 28), .ref (X.1 0)]) rfl ?_
  rw [nI_add]
  refine x_sald (j := i + 1) rfl R.c28 (mm_idx_nI (by omega) (by omega)) ?_
  refine x_run 1 (pc' := 871) (lv' := [(4, .int (nI i)), (0, .ref (X.1 28)), (1, .ref (X.1 0)), (2, .ref (X.1 8)), (3, .ref (X.1 27))]) (st' := [.ref (X.1 27), .int (X.2.2.2 (i + 1)), .ref (X.1 0)]) rfl ?_
  refine x_wr (v := .int (cd 5 99 99 99 o.1)) (A := RX u (v + 1020) X P (zo o z) o.2.2) (k' := 104) (as := [.ref (X.1 0), .int (X.2.2.2 (i + 1)), .ref (X.1 27)]) (rest := []) (x_isS (np := 3) rfl rfl rfl rfl rfl) (h_greatest R (wc u (v + 1020) X P z h d R h0) ho) (fun h R => ?_)
  obtain ⟨X2, R, eX, eT⟩ := R
  refine x_lv (a := [(4, .int (nI i)), (0, .ref (X.1 28)), (1, .ref (X.1 0)), (2, .ref (X.1 8)), (3, .ref (X.1 27))]) rfl rfl ⟨rfl, rfl, rfl, rfl, rfl, trivial⟩ ?_
  rw [← eT 0 (by omega), ← eT 8 (by omega), ← eT 27 (by omega), ← eT 28 (by omega)]
  refine s2_greatest (X := X2) R (by rw [eX]; exact hl) (by rw [eX]; exact hL) (by rw [eX]; exact (wm u v X2 o.2.2 (zo o z) h (d + 1) R).mono (fun r e => mC_I (by decide) ho e)) (fun z h R => kk X2 o.2.2 z h R hI2 eX eT)
theorem s2_catch {P' : pP} {c : Int32} {Q : mm_O × mm_H → Prop} (R : Rep u (v + 1020) X P' P z h) (hl : i + 5 ≤ X.2.2.1) (hL : X.2.2.1 ≤ 2560) (wm : Wx (d + 8) 84 0 (lv_args 0 [.ref (X.1 8)]) [] h (fun r => ∃ b, r.1 = .inl (some (.long b)) ∧ mA u v X P' c b r.2)) (kk : ∀ z h, Rep u v X P' P' z h → Wx (d + 9) 110 1234 [(4, .int (nI i)), (0, .ref (X.1 28)), (1, .ref (X.1 0)), (2, .ref (X.1 8)), (3, .ref (X.1 27))] [] h Q) : Wx (d + 9) 110 924 [(4, .int (nI i)), (0, .ref (X.1 28)), (1, .ref (X.1 0)), (2, .ref (X.1 8)), (3, .ref (X.1 27))] [.int c] h Q := by
  refine x_run 2 (pc' := 927) (lv' := [(5, .int (c)), (4, .int (nI i)), (0, .ref (X.1 28)), (1, .ref (X.1 0)), (2, .ref (X.1 8)), (3, .ref (X.1 27))]) (st' := [.ref (X.1 8)]) rfl ?_
  refine x_wrE (f := Value.long) (A := fun b => mA u v X P' c b) (k' := 84) (as := [.ref (X.1 8)]) (rest := []) (x_isV (np := 0) rfl rfl rfl R.c8 rfl) wm (fun b h R => ?_)
  obtain ⟨s, hb, R⟩ := R
  refine x_run 2 (pc' := 933) (lv' := [(6, .long (b)), (5, .int (c)), (4, .int (nI i)), (0, .ref (X.1 28)), (1, .ref (X.1 0)), (2, .ref (X.1 8)), (3, .ref (X.1 27))]) (st' := [.ref (X.1 8)]) rfl ?_
  refine x_rd (v := .int (c)) (k' := 54) (as := [.ref (X.1 8)]) (rest := []) (x_isV (np := 0) rfl rfl rfl R.c8 rfl) (k_thrown R) ?_
  refine x_run 1 (pc' := 938) (lv' := [(6, .long (b)), (5, .int (c)), (4, .int (nI i)), (0, .ref (X.1 28)), (1, .ref (X.1 0)), (2, .ref (X.1 8)), (3, .ref (X.1 27))]) (st' := [.int (c), .int (c)]) rfl ?_
  refine x_if (c := c = c) (t := 943) rfl rfl (fun c1 => ?_) (fun c1 => ?_)
  · refine x_run 1 (pc' := 945) (lv' := [(6, .long (b)), (5, .int (c)), (4, .int (nI i)), (0, .ref (X.1 28)), (1, .ref (X.1 0)), (2, .ref (X.1 8)), (3, .ref (X.1 27))]) (st' := [.int (c)]) rfl ?_
    refine x_if (c := ¬ c = 0) (t := 959) rfl rfl (fun c2 => ?_) (fun c2 => ?_)
    · refine x_run 1 (pc' := 1234) (lv' := [(6, .long (b)), (5, .int (c)), (4, .int (nI i)), (0, .ref (X.1 28)), (1, .ref (X.1 0)), (2, .ref (X.1 8)), (3, .ref (X.1 27))]) (st' := []) rfl ?_
      refine x_lv (a := [(4, .int (nI i)), (0, .ref (X.1 28)), (1, .ref (X.1 0)), (2, .ref (X.1 8)), (3, .ref (X.1 27))]) rfl rfl ⟨rfl, rfl, rfl, rfl, rfl, trivial⟩ ?_
      exact kk _ h R
    · replace c2 := Classical.not_not.mp c2
      refine x_run 2 (pc' := 950) (lv' := [(6, .long (b)), (5, .int (c)), (4, .int (nI i)), (0, .ref (X.1 28)), (1, .ref (X.1 0)), (2, .ref (X.1 8)), (3, .ref (X.1 27))]) (st' := [.int (0), .ref (X.1 27)]) rfl ?_
      refine x_lald (j := 0) rfl R.c27 (mm_idx_nI (i := 0) (by omega) (by omega)) ?_
      refine x_run 1 (pc' := 953) (lv' := [(6, .long (b)), (5, .int (c)), (4, .int (nI i)), (0, .ref (X.1 28)), (1, .ref (X.1 0)), (2, .ref (X.1 8)), (3, .ref (X.1 27))]) (st' := [.long (b), .long (((c, s)).2 5 0)]) rfl ?_
      refine x_leq (t := 959) rfl rfl rfl (fun c3 => ?_) (fun c3 => ?_)
      · refine x_run 1 (pc' := 1234) (lv' := [(6, .long (b)), (5, .int (c)), (4, .int (nI i)), (0, .ref (X.1 28)), (1, .ref (X.1 0)), (2, .ref (X.1 8)), (3, .ref (X.1 27))]) (st' := []) rfl ?_
        refine x_lv (a := [(4, .int (nI i)), (0, .ref (X.1 28)), (1, .ref (X.1 0)), (2, .ref (X.1 8)), (3, .ref (X.1 27))]) rfl rfl ⟨rfl, rfl, rfl, rfl, rfl, trivial⟩ ?_
        exact kk _ h R
      · exact absurd (hb (by assumption)) c3
  · exact absurd rfl c1
theorem s_catch {t : Nat} {Q : mm_O × mm_H → Prop} (R : Rep (u + 17) (v + 1020 + 1020) X P P z h) (hI : Inv (t + 1) P) (h0 : X.2.1 = 0) (hl : i + 5 ≤ X.2.2.1) (hL : X.2.2.1 ≤ 2560) (kk : ∀ (X' : xX) (P' : pP) (z : zZ) (h : mm_H), Rep u v X' P' P' z h → Inv t P' → X'.2 = X.2 → (∀ t, t < 29 → X'.1 t = X.1 t) → Wx (d + 9) 110 1234 [(4, .int (nI i)), (0, .ref (X'.1 28)), (1, .ref (X'.1 0)), (2, .ref (X'.1 8)), (3, .ref (X'.1 27))] [] h Q) : Wx (d + 9) 110 919 [(4, .int (nI i)), (0, .ref (X.1 28)), (1, .ref (X.1 0)), (2, .ref (X.1 8)), (3, .ref (X.1 27))] [] h Q := by
  obtain ⟨o, hI2, ho, wc, wm⟩ := op_catch hI R.wP
  refine x_run 2 (pc' := 921) (lv' := [(4, .int (nI i)), (0, .ref (X.1 28)), (1, .ref (X.1 0)), (2, .ref (X.1 8)), (3, .ref (X.1 27))]) (st' := [.ref (X.1 27), .ref (X.1 0)]) rfl ?_
  refine x_wr (v := .int (cd 6 99 99 99 o.1)) (A := RX u (v + 1020) X P (zo o z) o.2.2) (k' := 105) (as := [.ref (X.1 0), .ref (X.1 27)]) (rest := []) (x_isS (np := 2) rfl rfl rfl rfl rfl) (h_catch R (wc u (v + 1020) X P z h d R h0) ho) (fun h R => ?_)
  obtain ⟨X2, R, eX, eT⟩ := R
  refine x_lv (a := [(4, .int (nI i)), (0, .ref (X.1 28)), (1, .ref (X.1 0)), (2, .ref (X.1 8)), (3, .ref (X.1 27))]) rfl rfl ⟨rfl, rfl, rfl, rfl, rfl, trivial⟩ ?_
  rw [← eT 0 (by omega), ← eT 8 (by omega), ← eT 27 (by omega), ← eT 28 (by omega)]
  refine s2_catch (X := X2) R (by rw [eX]; exact hl) (by rw [eX]; exact hL) (by exact (wm u v X2 o.2.2 (zo o z) h (d + 1) R).mono (fun r e => mC_L (by decide) ho e)) (fun z h R => kk X2 o.2.2 z h R hI2 eX eT)
theorem s2_end {P' : pP} {c : Int32} {Q : mm_O × mm_H → Prop} (R : Rep u (v + 1020) X P' P z h) (hl : i + 5 ≤ X.2.2.1) (hL : X.2.2.1 ≤ 2560) (wm : Wx (d + 8) 89 0 (lv_args 0 [.ref (X.1 8)]) [] h (fun r => ∃ b, r.1 = .inl (some (.long b)) ∧ mA u v X P' c b r.2)) (kk : ∀ z h, Rep u v X P' P' z h → Wx (d + 9) 110 1234 [(4, .int (nI i)), (0, .ref (X.1 28)), (1, .ref (X.1 0)), (2, .ref (X.1 8)), (3, .ref (X.1 27))] [] h Q) : Wx (d + 9) 110 967 [(4, .int (nI i)), (0, .ref (X.1 28)), (1, .ref (X.1 0)), (2, .ref (X.1 8)), (3, .ref (X.1 27))] [.int c] h Q := by
  refine x_run 2 (pc' := 970) (lv' := [(5, .int (c)), (4, .int (nI i)), (0, .ref (X.1 28)), (1, .ref (X.1 0)), (2, .ref (X.1 8)), (3, .ref (X.1 27))]) (st' := [.ref (X.1 8)]) rfl ?_
  refine x_wrE (f := Value.long) (A := fun b => mA u v X P' c b) (k' := 89) (as := [.ref (X.1 8)]) (rest := []) (x_isV (np := 0) rfl rfl rfl R.c8 rfl) wm (fun b h R => ?_)
  obtain ⟨s, hb, R⟩ := R
  refine x_run 2 (pc' := 976) (lv' := [(6, .long (b)), (5, .int (c)), (4, .int (nI i)), (0, .ref (X.1 28)), (1, .ref (X.1 0)), (2, .ref (X.1 8)), (3, .ref (X.1 27))]) (st' := [.ref (X.1 8)]) rfl ?_
  refine x_rd (v := .int (c)) (k' := 54) (as := [.ref (X.1 8)]) (rest := []) (x_isV (np := 0) rfl rfl rfl R.c8 rfl) (k_thrown R) ?_
  refine x_run 1 (pc' := 981) (lv' := [(6, .long (b)), (5, .int (c)), (4, .int (nI i)), (0, .ref (X.1 28)), (1, .ref (X.1 0)), (2, .ref (X.1 8)), (3, .ref (X.1 27))]) (st' := [.int (c), .int (c)]) rfl ?_
  refine x_if (c := c = c) (t := 986) rfl rfl (fun c1 => ?_) (fun c1 => ?_)
  · refine x_run 1 (pc' := 988) (lv' := [(6, .long (b)), (5, .int (c)), (4, .int (nI i)), (0, .ref (X.1 28)), (1, .ref (X.1 0)), (2, .ref (X.1 8)), (3, .ref (X.1 27))]) (st' := [.int (c)]) rfl ?_
    refine x_if (c := ¬ c = 0) (t := 1002) rfl rfl (fun c2 => ?_) (fun c2 => ?_)
    · refine x_run 1 (pc' := 1234) (lv' := [(6, .long (b)), (5, .int (c)), (4, .int (nI i)), (0, .ref (X.1 28)), (1, .ref (X.1 0)), (2, .ref (X.1 8)), (3, .ref (X.1 27))]) (st' := []) rfl ?_
      refine x_lv (a := [(4, .int (nI i)), (0, .ref (X.1 28)), (1, .ref (X.1 0)), (2, .ref (X.1 8)), (3, .ref (X.1 27))]) rfl rfl ⟨rfl, rfl, rfl, rfl, rfl, trivial⟩ ?_
      exact kk _ h R
    · replace c2 := Classical.not_not.mp c2
      refine x_run 2 (pc' := 993) (lv' := [(6, .long (b)), (5, .int (c)), (4, .int (nI i)), (0, .ref (X.1 28)), (1, .ref (X.1 0)), (2, .ref (X.1 8)), (3, .ref (X.1 27))]) (st' := [.int (0), .ref (X.1 27)]) rfl ?_
      refine x_lald (j := 0) rfl R.c27 (mm_idx_nI (i := 0) (by omega) (by omega)) ?_
      refine x_run 1 (pc' := 996) (lv' := [(6, .long (b)), (5, .int (c)), (4, .int (nI i)), (0, .ref (X.1 28)), (1, .ref (X.1 0)), (2, .ref (X.1 8)), (3, .ref (X.1 27))]) (st' := [.long (b), .long (((c, s)).2 5 0)]) rfl ?_
      refine x_leq (t := 1002) rfl rfl rfl (fun c3 => ?_) (fun c3 => ?_)
      · refine x_run 1 (pc' := 1234) (lv' := [(6, .long (b)), (5, .int (c)), (4, .int (nI i)), (0, .ref (X.1 28)), (1, .ref (X.1 0)), (2, .ref (X.1 8)), (3, .ref (X.1 27))]) (st' := []) rfl ?_
        refine x_lv (a := [(4, .int (nI i)), (0, .ref (X.1 28)), (1, .ref (X.1 0)), (2, .ref (X.1 8)), (3, .ref (X.1 27))]) rfl rfl ⟨rfl, rfl, rfl, rfl, rfl, trivial⟩ ?_
        exact kk _ h R
      · exact absurd (hb (by assumption)) c3
  · exact absurd rfl c1
theorem s_end {t : Nat} {Q : mm_O × mm_H → Prop} (R : Rep (u + 17) (v + 1020 + 1020) X P P z h) (hI : Inv (t + 1) P) (h0 : X.2.1 = 0) (hl : i + 5 ≤ X.2.2.1) (hL : X.2.2.1 ≤ 2560) (kk : ∀ (X' : xX) (P' : pP) (z : zZ) (h : mm_H), Rep u v X' P' P' z h → Inv t P' → X'.2 = X.2 → (∀ t, t < 29 → X'.1 t = X.1 t) → Wx (d + 9) 110 1234 [(4, .int (nI i)), (0, .ref (X'.1 28)), (1, .ref (X'.1 0)), (2, .ref (X'.1 8)), (3, .ref (X'.1 27))] [] h Q) : Wx (d + 9) 110 962 [(4, .int (nI i)), (0, .ref (X.1 28)), (1, .ref (X.1 0)), (2, .ref (X.1 8)), (3, .ref (X.1 27))] [] h Q := by
  obtain ⟨o, hI2, ho, wc, wm⟩ := op_end hI R.wP
  refine x_run 2 (pc' := 964) (lv' := [(4, .int (nI i)), (0, .ref (X.1 28)), (1, .ref (X.1 0)), (2, .ref (X.1 8)), (3, .ref (X.1 27))]) (st' := [.ref (X.1 27), .ref (X.1 0)]) rfl ?_
  refine x_wr (v := .int (cd 6 99 99 99 o.1)) (A := RX u (v + 1020) X P (zo o z) o.2.2) (k' := 106) (as := [.ref (X.1 0), .ref (X.1 27)]) (rest := []) (x_isS (np := 2) rfl rfl rfl rfl rfl) (h_end R (wc u (v + 1020) X P z h d R h0) ho) (fun h R => ?_)
  obtain ⟨X2, R, eX, eT⟩ := R
  refine x_lv (a := [(4, .int (nI i)), (0, .ref (X.1 28)), (1, .ref (X.1 0)), (2, .ref (X.1 8)), (3, .ref (X.1 27))]) rfl rfl ⟨rfl, rfl, rfl, rfl, rfl, trivial⟩ ?_
  rw [← eT 0 (by omega), ← eT 8 (by omega), ← eT 27 (by omega), ← eT 28 (by omega)]
  refine s2_end (X := X2) R (by rw [eX]; exact hl) (by rw [eX]; exact hL) (by exact (wm u v X2 o.2.2 (zo o z) h (d + 1) R).mono (fun r e => mC_L (by decide) ho e)) (fun z h R => kk X2 o.2.2 z h R hI2 eX eT)
theorem s2_told {P' : pP} {c : Int32} {Q : mm_O × mm_H → Prop} (R : Rep u (v + 1020) X P' P z h) (hl : i + 5 ≤ X.2.2.1) (hL : X.2.2.1 ≤ 2560) (wm : Wx (d + 8) 90 0 (lv_args 0 [.ref (X.1 8), .int (X.2.2.2 (i + 1)), .int (X.2.2.2 (i + 2))]) [] h (fun r => ∃ b, r.1 = .inl (some (.long b)) ∧ mA u v X P' c b r.2)) (kk : ∀ z h, Rep u v X P' P' z h → Wx (d + 9) 110 1234 [(4, .int (nI i)), (0, .ref (X.1 28)), (1, .ref (X.1 0)), (2, .ref (X.1 8)), (3, .ref (X.1 27))] [] h Q) : Wx (d + 9) 110 1022 [(4, .int (nI i)), (0, .ref (X.1 28)), (1, .ref (X.1 0)), (2, .ref (X.1 8)), (3, .ref (X.1 27))] [.int c] h Q := by
  refine x_run 6 (pc' := 1030) (lv' := [(5, .int (c)), (4, .int (nI i)), (0, .ref (X.1 28)), (1, .ref (X.1 0)), (2, .ref (X.1 8)), (3, .ref (X.1 27))]) (st' := [.int ((nI i) + (nI 1)), .ref (X.1 28), .ref (X.1 8)]) rfl ?_
  rw [nI_add]
  refine x_sald (j := i + 1) rfl R.c28 (mm_idx_nI (by omega) (by omega)) ?_
  refine x_run 4 (pc' := 1036) (lv' := [(5, .int (c)), (4, .int (nI i)), (0, .ref (X.1 28)), (1, .ref (X.1 0)), (2, .ref (X.1 8)), (3, .ref (X.1 27))]) (st' := [.int ((nI i) + (nI 2)), .ref (X.1 28), .int (X.2.2.2 (i + 1)), .ref (X.1 8)]) rfl ?_
  rw [nI_add]
  refine x_sald (j := i + 2) rfl R.c28 (mm_idx_nI (by omega) (by omega)) ?_
  refine x_wrE (f := Value.long) (A := fun b => mA u v X P' c b) (k' := 90) (as := [.ref (X.1 8), .int (X.2.2.2 (i + 1)), .int (X.2.2.2 (i + 2))]) (rest := []) (x_isV (np := 2) rfl rfl rfl R.c8 rfl) wm (fun b h R => ?_)
  obtain ⟨s, hb, R⟩ := R
  refine x_run 2 (pc' := 1043) (lv' := [(6, .long (b)), (5, .int (c)), (4, .int (nI i)), (0, .ref (X.1 28)), (1, .ref (X.1 0)), (2, .ref (X.1 8)), (3, .ref (X.1 27))]) (st' := [.ref (X.1 8)]) rfl ?_
  refine x_rd (v := .int (c)) (k' := 54) (as := [.ref (X.1 8)]) (rest := []) (x_isV (np := 0) rfl rfl rfl R.c8 rfl) (k_thrown R) ?_
  refine x_run 1 (pc' := 1048) (lv' := [(6, .long (b)), (5, .int (c)), (4, .int (nI i)), (0, .ref (X.1 28)), (1, .ref (X.1 0)), (2, .ref (X.1 8)), (3, .ref (X.1 27))]) (st' := [.int (c), .int (c)]) rfl ?_
  refine x_if (c := c = c) (t := 1053) rfl rfl (fun c1 => ?_) (fun c1 => ?_)
  · refine x_run 1 (pc' := 1055) (lv' := [(6, .long (b)), (5, .int (c)), (4, .int (nI i)), (0, .ref (X.1 28)), (1, .ref (X.1 0)), (2, .ref (X.1 8)), (3, .ref (X.1 27))]) (st' := [.int (c)]) rfl ?_
    refine x_if (c := ¬ c = 0) (t := 1069) rfl rfl (fun c2 => ?_) (fun c2 => ?_)
    · refine x_run 1 (pc' := 1234) (lv' := [(6, .long (b)), (5, .int (c)), (4, .int (nI i)), (0, .ref (X.1 28)), (1, .ref (X.1 0)), (2, .ref (X.1 8)), (3, .ref (X.1 27))]) (st' := []) rfl ?_
      refine x_lv (a := [(4, .int (nI i)), (0, .ref (X.1 28)), (1, .ref (X.1 0)), (2, .ref (X.1 8)), (3, .ref (X.1 27))]) rfl rfl ⟨rfl, rfl, rfl, rfl, rfl, trivial⟩ ?_
      exact kk _ h R
    · replace c2 := Classical.not_not.mp c2
      refine x_run 2 (pc' := 1060) (lv' := [(6, .long (b)), (5, .int (c)), (4, .int (nI i)), (0, .ref (X.1 28)), (1, .ref (X.1 0)), (2, .ref (X.1 8)), (3, .ref (X.1 27))]) (st' := [.int (0), .ref (X.1 27)]) rfl ?_
      refine x_lald (j := 0) rfl R.c27 (mm_idx_nI (i := 0) (by omega) (by omega)) ?_
      refine x_run 1 (pc' := 1063) (lv' := [(6, .long (b)), (5, .int (c)), (4, .int (nI i)), (0, .ref (X.1 28)), (1, .ref (X.1 0)), (2, .ref (X.1 8)), (3, .ref (X.1 27))]) (st' := [.long (b), .long (((c, s)).2 5 0)]) rfl ?_
      refine x_leq (t := 1069) rfl rfl rfl (fun c3 => ?_) (fun c3 => ?_)
      · refine x_run 1 (pc' := 1234) (lv' := [(6, .long (b)), (5, .int (c)), (4, .int (nI i)), (0, .ref (X.1 28)), (1, .ref (X.1 0)), (2, .ref (X.1 8)), (3, .ref (X.1 27))]) (st' := []) rfl ?_
        refine x_lv (a := [(4, .int (nI i)), (0, .ref (X.1 28)), (1, .ref (X.1 0)), (2, .ref (X.1 8)), (3, .ref (X.1 27))]) rfl rfl ⟨rfl, rfl, rfl, rfl, rfl, trivial⟩ ?_
        exact kk _ h R
      · exact absurd (hb (by assumption)) c3
  · exact absurd rfl c1
theorem s_told {t : Nat} {Q : mm_O × mm_H → Prop} (R : Rep (u + 17) (v + 1020 + 1020) X P P z h) (hI : Inv (t + 1) P) (h0 : X.2.1 = 0) (hl : i + 5 ≤ X.2.2.1) (hL : X.2.2.1 ≤ 2560) (kk : ∀ (X' : xX) (P' : pP) (z : zZ) (h : mm_H), Rep u v X' P' P' z h → Inv t P' → X'.2 = X.2 → (∀ t, t < 29 → X'.1 t = X.1 t) → Wx (d + 9) 110 1234 [(4, .int (nI i)), (0, .ref (X'.1 28)), (1, .ref (X'.1 0)), (2, .ref (X'.1 8)), (3, .ref (X'.1 27))] [] h Q) : Wx (d + 9) 110 1005 [(4, .int (nI i)), (0, .ref (X.1 28)), (1, .ref (X.1 0)), (2, .ref (X.1 8)), (3, .ref (X.1 27))] [] h Q := by
  obtain ⟨o, hI2, ho, wc, wm⟩ := op_told hI R.wP (X.2.2.2 (i + 1)) (X.2.2.2 (i + 2))
  refine x_run 5 (pc' := 1011) (lv' := [(4, .int (nI i)), (0, .ref (X.1 28)), (1, .ref (X.1 0)), (2, .ref (X.1 8)), (3, .ref (X.1 27))]) (st' := [.int ((nI i) + (nI 1)), .ref (X.1 28), .ref (X.1 0)]) rfl ?_
  rw [nI_add]
  refine x_sald (j := i + 1) rfl R.c28 (mm_idx_nI (by omega) (by omega)) ?_
  refine x_run 4 (pc' := 1017) (lv' := [(4, .int (nI i)), (0, .ref (X.1 28)), (1, .ref (X.1 0)), (2, .ref (X.1 8)), (3, .ref (X.1 27))]) (st' := [.int ((nI i) + (nI 2)), .ref (X.1 28), .int (X.2.2.2 (i + 1)), .ref (X.1 0)]) rfl ?_
  rw [nI_add]
  refine x_sald (j := i + 2) rfl R.c28 (mm_idx_nI (by omega) (by omega)) ?_
  refine x_run 1 (pc' := 1019) (lv' := [(4, .int (nI i)), (0, .ref (X.1 28)), (1, .ref (X.1 0)), (2, .ref (X.1 8)), (3, .ref (X.1 27))]) (st' := [.ref (X.1 27), .int (X.2.2.2 (i + 2)), .int (X.2.2.2 (i + 1)), .ref (X.1 0)]) rfl ?_
  refine x_wr (v := .int (cd 7 5 99 99 o.1)) (A := RX u (v + 1020) X P (zo o z) o.2.2) (k' := 107) (as := [.ref (X.1 0), .int (X.2.2.2 (i + 1)), .int (X.2.2.2 (i + 2)), .ref (X.1 27)]) (rest := []) (x_isS (np := 4) rfl rfl rfl rfl rfl) (h_told R (wc u (v + 1020) X P z h d R h0) ho) (fun h R => ?_)
  obtain ⟨X2, R, eX, eT⟩ := R
  refine x_lv (a := [(4, .int (nI i)), (0, .ref (X.1 28)), (1, .ref (X.1 0)), (2, .ref (X.1 8)), (3, .ref (X.1 27))]) rfl rfl ⟨rfl, rfl, rfl, rfl, rfl, trivial⟩ ?_
  rw [← eT 0 (by omega), ← eT 8 (by omega), ← eT 27 (by omega), ← eT 28 (by omega)]
  refine s2_told (X := X2) R (by rw [eX]; exact hl) (by rw [eX]; exact hL) (by rw [eX]; exact (wm u v X2 o.2.2 (zo o z) h (d + 1) R).mono (fun r e => mC_L (by decide) ho e)) (fun z h R => kk X2 o.2.2 z h R hI2 eX eT)
theorem s2_percentage {P' : pP} {c : Int32} {Q : mm_O × mm_H → Prop} (R : Rep u (v + 1020) X P' P z h) (hl : i + 5 ≤ X.2.2.1) (hL : X.2.2.1 ≤ 2560) (wm : Wx (d + 8) 91 0 (lv_args 0 [.ref (X.1 8), .int (X.2.2.2 (i + 1))]) [] h (fun r => ∃ b, r.1 = .inl (some (.int b)) ∧ mA u v X P' c b.toInt64 r.2)) (kk : ∀ z h, Rep u v X P' P' z h → Wx (d + 9) 110 1234 [(4, .int (nI i)), (0, .ref (X.1 28)), (1, .ref (X.1 0)), (2, .ref (X.1 8)), (3, .ref (X.1 27))] [] h Q) : Wx (d + 9) 110 1083 [(4, .int (nI i)), (0, .ref (X.1 28)), (1, .ref (X.1 0)), (2, .ref (X.1 8)), (3, .ref (X.1 27))] [.int c] h Q := by
  refine x_run 6 (pc' := 1091) (lv' := [(5, .int (c)), (4, .int (nI i)), (0, .ref (X.1 28)), (1, .ref (X.1 0)), (2, .ref (X.1 8)), (3, .ref (X.1 27))]) (st' := [.int ((nI i) + (nI 1)), .ref (X.1 28), .ref (X.1 8)]) rfl ?_
  rw [nI_add]
  refine x_sald (j := i + 1) rfl R.c28 (mm_idx_nI (by omega) (by omega)) ?_
  refine x_wrE (f := Value.int) (A := fun b => mA u v X P' c b.toInt64) (k' := 91) (as := [.ref (X.1 8), .int (X.2.2.2 (i + 1))]) (rest := []) (x_isV (np := 1) rfl rfl rfl R.c8 rfl) wm (fun b h R => ?_)
  obtain ⟨s, hb, R⟩ := R
  refine x_run 2 (pc' := 1098) (lv' := [(6, .int (b)), (5, .int (c)), (4, .int (nI i)), (0, .ref (X.1 28)), (1, .ref (X.1 0)), (2, .ref (X.1 8)), (3, .ref (X.1 27))]) (st' := [.ref (X.1 8)]) rfl ?_
  refine x_rd (v := .int (c)) (k' := 54) (as := [.ref (X.1 8)]) (rest := []) (x_isV (np := 0) rfl rfl rfl R.c8 rfl) (k_thrown R) ?_
  refine x_run 1 (pc' := 1103) (lv' := [(6, .int (b)), (5, .int (c)), (4, .int (nI i)), (0, .ref (X.1 28)), (1, .ref (X.1 0)), (2, .ref (X.1 8)), (3, .ref (X.1 27))]) (st' := [.int (c), .int (c)]) rfl ?_
  refine x_if (c := c = c) (t := 1108) rfl rfl (fun c1 => ?_) (fun c1 => ?_)
  · refine x_run 1 (pc' := 1110) (lv' := [(6, .int (b)), (5, .int (c)), (4, .int (nI i)), (0, .ref (X.1 28)), (1, .ref (X.1 0)), (2, .ref (X.1 8)), (3, .ref (X.1 27))]) (st' := [.int (c)]) rfl ?_
    refine x_if (c := ¬ c = 0) (t := 1125) rfl rfl (fun c2 => ?_) (fun c2 => ?_)
    · refine x_run 1 (pc' := 1234) (lv' := [(6, .int (b)), (5, .int (c)), (4, .int (nI i)), (0, .ref (X.1 28)), (1, .ref (X.1 0)), (2, .ref (X.1 8)), (3, .ref (X.1 27))]) (st' := []) rfl ?_
      refine x_lv (a := [(4, .int (nI i)), (0, .ref (X.1 28)), (1, .ref (X.1 0)), (2, .ref (X.1 8)), (3, .ref (X.1 27))]) rfl rfl ⟨rfl, rfl, rfl, rfl, rfl, trivial⟩ ?_
      exact kk _ h R
    · replace c2 := Classical.not_not.mp c2
      refine x_run 2 (pc' := 1115) (lv' := [(6, .int (b)), (5, .int (c)), (4, .int (nI i)), (0, .ref (X.1 28)), (1, .ref (X.1 0)), (2, .ref (X.1 8)), (3, .ref (X.1 27))]) (st' := [.int (0), .ref (X.1 27)]) rfl ?_
      refine x_lald (j := 0) rfl R.c27 (mm_idx_nI (i := 0) (by omega) (by omega)) ?_
      refine x_run 2 (pc' := 1119) (lv' := [(6, .int (b)), (5, .int (c)), (4, .int (nI i)), (0, .ref (X.1 28)), (1, .ref (X.1 0)), (2, .ref (X.1 8)), (3, .ref (X.1 27))]) (st' := [.long ((b).toInt64), .long (((c, s)).2 5 0)]) rfl ?_
      refine x_leq (t := 1125) rfl rfl rfl (fun c3 => ?_) (fun c3 => ?_)
      · refine x_run 1 (pc' := 1234) (lv' := [(6, .int (b)), (5, .int (c)), (4, .int (nI i)), (0, .ref (X.1 28)), (1, .ref (X.1 0)), (2, .ref (X.1 8)), (3, .ref (X.1 27))]) (st' := []) rfl ?_
        refine x_lv (a := [(4, .int (nI i)), (0, .ref (X.1 28)), (1, .ref (X.1 0)), (2, .ref (X.1 8)), (3, .ref (X.1 27))]) rfl rfl ⟨rfl, rfl, rfl, rfl, rfl, trivial⟩ ?_
        exact kk _ h R
      · exact absurd (hb (by assumption)) c3
  · exact absurd rfl c1
theorem s_percentage {t : Nat} {Q : mm_O × mm_H → Prop} (R : Rep (u + 17) (v + 1020 + 1020) X P P z h) (hI : Inv (t + 1) P) (h0 : X.2.1 = 0) (hl : i + 5 ≤ X.2.2.1) (hL : X.2.2.1 ≤ 2560) (kk : ∀ (X' : xX) (P' : pP) (z : zZ) (h : mm_H), Rep u v X' P' P' z h → Inv t P' → X'.2 = X.2 → (∀ t, t < 29 → X'.1 t = X.1 t) → Wx (d + 9) 110 1234 [(4, .int (nI i)), (0, .ref (X'.1 28)), (1, .ref (X'.1 0)), (2, .ref (X'.1 8)), (3, .ref (X'.1 27))] [] h Q) : Wx (d + 9) 110 1072 [(4, .int (nI i)), (0, .ref (X.1 28)), (1, .ref (X.1 0)), (2, .ref (X.1 8)), (3, .ref (X.1 27))] [] h Q := by
  obtain ⟨o, hI2, ho, wc, wm⟩ := op_percentage hI R.wP (X.2.2.2 (i + 1))
  refine x_run 5 (pc' := 1078) (lv' := [(4, .int (nI i)), (0, .ref (X.1 28)), (1, .ref (X.1 0)), (2, .ref (X.1 8)), (3, .ref (X.1 27))]) (st' := [.int ((nI i) + (nI 1)), .ref (X.1 28), .ref (X.1 0)]) rfl ?_
  rw [nI_add]
  refine x_sald (j := i + 1) rfl R.c28 (mm_idx_nI (by omega) (by omega)) ?_
  refine x_run 1 (pc' := 1080) (lv' := [(4, .int (nI i)), (0, .ref (X.1 28)), (1, .ref (X.1 0)), (2, .ref (X.1 8)), (3, .ref (X.1 27))]) (st' := [.ref (X.1 27), .int (X.2.2.2 (i + 1)), .ref (X.1 0)]) rfl ?_
  refine x_wr (v := .int (cd 5 99 99 99 o.1)) (A := RX u (v + 1020) X P (zo o z) o.2.2) (k' := 108) (as := [.ref (X.1 0), .int (X.2.2.2 (i + 1)), .ref (X.1 27)]) (rest := []) (x_isS (np := 3) rfl rfl rfl rfl rfl) (h_percentage R (wc u (v + 1020) X P z h d R h0) ho) (fun h R => ?_)
  obtain ⟨X2, R, eX, eT⟩ := R
  refine x_lv (a := [(4, .int (nI i)), (0, .ref (X.1 28)), (1, .ref (X.1 0)), (2, .ref (X.1 8)), (3, .ref (X.1 27))]) rfl rfl ⟨rfl, rfl, rfl, rfl, rfl, trivial⟩ ?_
  rw [← eT 0 (by omega), ← eT 8 (by omega), ← eT 27 (by omega), ← eT 28 (by omega)]
  refine s2_percentage (X := X2) R (by rw [eX]; exact hl) (by rw [eX]; exact hL) (by rw [eX]; exact (wm u v X2 o.2.2 (zo o z) h (d + 1) R).mono (fun r e => mC_I (by decide) ho e)) (fun z h R => kk X2 o.2.2 z h R hI2 eX eT)
theorem s2_entry {P' : pP} {c : Int32} {Q : mm_O × mm_H → Prop} (R : Rep u (v + 1020) X P' P z h) (hl : i + 5 ≤ X.2.2.1) (hL : X.2.2.1 ≤ 2560) (wm : Wx (d + 8) 94 0 (lv_args 0 [.ref (X.1 8), .int (X.2.2.2 (i + 1)), .int (X.2.2.2 (i + 2))]) [] h (fun r => ∃ b, r.1 = .inl (some (.long b)) ∧ mA u v X P' c b r.2)) (kk : ∀ z h, Rep u v X P' P' z h → Wx (d + 9) 110 1234 [(4, .int (nI i)), (0, .ref (X.1 28)), (1, .ref (X.1 0)), (2, .ref (X.1 8)), (3, .ref (X.1 27))] [] h Q) : Wx (d + 9) 110 1184 [(4, .int (nI i)), (0, .ref (X.1 28)), (1, .ref (X.1 0)), (2, .ref (X.1 8)), (3, .ref (X.1 27))] [.int c] h Q := by
  refine x_run 6 (pc' := 1192) (lv' := [(5, .int (c)), (4, .int (nI i)), (0, .ref (X.1 28)), (1, .ref (X.1 0)), (2, .ref (X.1 8)), (3, .ref (X.1 27))]) (st' := [.int ((nI i) + (nI 1)), .ref (X.1 28), .ref (X.1 8)]) rfl ?_
  rw [nI_add]
  refine x_sald (j := i + 1) rfl R.c28 (mm_idx_nI (by omega) (by omega)) ?_
  refine x_run 4 (pc' := 1198) (lv' := [(5, .int (c)), (4, .int (nI i)), (0, .ref (X.1 28)), (1, .ref (X.1 0)), (2, .ref (X.1 8)), (3, .ref (X.1 27))]) (st' := [.int ((nI i) + (nI 2)), .ref (X.1 28), .int (X.2.2.2 (i + 1)), .ref (X.1 8)]) rfl ?_
  rw [nI_add]
  refine x_sald (j := i + 2) rfl R.c28 (mm_idx_nI (by omega) (by omega)) ?_
  refine x_wrE (f := Value.long) (A := fun b => mA u v X P' c b) (k' := 94) (as := [.ref (X.1 8), .int (X.2.2.2 (i + 1)), .int (X.2.2.2 (i + 2))]) (rest := []) (x_isV (np := 2) rfl rfl rfl R.c8 rfl) wm (fun b h R => ?_)
  obtain ⟨s, hb, R⟩ := R
  refine x_run 2 (pc' := 1205) (lv' := [(6, .long (b)), (5, .int (c)), (4, .int (nI i)), (0, .ref (X.1 28)), (1, .ref (X.1 0)), (2, .ref (X.1 8)), (3, .ref (X.1 27))]) (st' := [.ref (X.1 8)]) rfl ?_
  refine x_rd (v := .int (c)) (k' := 54) (as := [.ref (X.1 8)]) (rest := []) (x_isV (np := 0) rfl rfl rfl R.c8 rfl) (k_thrown R) ?_
  refine x_run 1 (pc' := 1210) (lv' := [(6, .long (b)), (5, .int (c)), (4, .int (nI i)), (0, .ref (X.1 28)), (1, .ref (X.1 0)), (2, .ref (X.1 8)), (3, .ref (X.1 27))]) (st' := [.int (c), .int (c)]) rfl ?_
  refine x_if (c := c = c) (t := 1215) rfl rfl (fun c1 => ?_) (fun c1 => ?_)
  · refine x_run 1 (pc' := 1217) (lv' := [(6, .long (b)), (5, .int (c)), (4, .int (nI i)), (0, .ref (X.1 28)), (1, .ref (X.1 0)), (2, .ref (X.1 8)), (3, .ref (X.1 27))]) (st' := [.int (c)]) rfl ?_
    refine x_if (c := ¬ c = 0) (t := 1231) rfl rfl (fun c2 => ?_) (fun c2 => ?_)
    · refine x_run 1 (pc' := 1234) (lv' := [(6, .long (b)), (5, .int (c)), (4, .int (nI i)), (0, .ref (X.1 28)), (1, .ref (X.1 0)), (2, .ref (X.1 8)), (3, .ref (X.1 27))]) (st' := []) rfl ?_
      refine x_lv (a := [(4, .int (nI i)), (0, .ref (X.1 28)), (1, .ref (X.1 0)), (2, .ref (X.1 8)), (3, .ref (X.1 27))]) rfl rfl ⟨rfl, rfl, rfl, rfl, rfl, trivial⟩ ?_
      exact kk _ h R
    · replace c2 := Classical.not_not.mp c2
      refine x_run 2 (pc' := 1222) (lv' := [(6, .long (b)), (5, .int (c)), (4, .int (nI i)), (0, .ref (X.1 28)), (1, .ref (X.1 0)), (2, .ref (X.1 8)), (3, .ref (X.1 27))]) (st' := [.int (0), .ref (X.1 27)]) rfl ?_
      refine x_lald (j := 0) rfl R.c27 (mm_idx_nI (i := 0) (by omega) (by omega)) ?_
      refine x_run 1 (pc' := 1225) (lv' := [(6, .long (b)), (5, .int (c)), (4, .int (nI i)), (0, .ref (X.1 28)), (1, .ref (X.1 0)), (2, .ref (X.1 8)), (3, .ref (X.1 27))]) (st' := [.long (b), .long (((c, s)).2 5 0)]) rfl ?_
      refine x_leq (t := 1231) rfl rfl rfl (fun c3 => ?_) (fun c3 => ?_)
      · refine x_run 1 (pc' := 1234) (lv' := [(6, .long (b)), (5, .int (c)), (4, .int (nI i)), (0, .ref (X.1 28)), (1, .ref (X.1 0)), (2, .ref (X.1 8)), (3, .ref (X.1 27))]) (st' := []) rfl ?_
        refine x_lv (a := [(4, .int (nI i)), (0, .ref (X.1 28)), (1, .ref (X.1 0)), (2, .ref (X.1 8)), (3, .ref (X.1 27))]) rfl rfl ⟨rfl, rfl, rfl, rfl, rfl, trivial⟩ ?_
        exact kk _ h R
      · exact absurd (hb (by assumption)) c3
  · exact absurd rfl c1
theorem s_entry {t : Nat} {Q : mm_O × mm_H → Prop} (R : Rep (u + 17) (v + 1020 + 1020) X P P z h) (hI : Inv (t + 1) P) (h0 : X.2.1 = 0) (hl : i + 5 ≤ X.2.2.1) (hL : X.2.2.1 ≤ 2560) (kk : ∀ (X' : xX) (P' : pP) (z : zZ) (h : mm_H), Rep u v X' P' P' z h → Inv t P' → X'.2 = X.2 → (∀ t, t < 29 → X'.1 t = X.1 t) → Wx (d + 9) 110 1234 [(4, .int (nI i)), (0, .ref (X'.1 28)), (1, .ref (X'.1 0)), (2, .ref (X'.1 8)), (3, .ref (X'.1 27))] [] h Q) : Wx (d + 9) 110 1167 [(4, .int (nI i)), (0, .ref (X.1 28)), (1, .ref (X.1 0)), (2, .ref (X.1 8)), (3, .ref (X.1 27))] [] h Q := by
  obtain ⟨o, hI2, ho, wc, wm⟩ := op_entry hI R.wP (X.2.2.2 (i + 1)) (X.2.2.2 (i + 2))
  refine x_run 5 (pc' := 1173) (lv' := [(4, .int (nI i)), (0, .ref (X.1 28)), (1, .ref (X.1 0)), (2, .ref (X.1 8)), (3, .ref (X.1 27))]) (st' := [.int ((nI i) + (nI 1)), .ref (X.1 28), .ref (X.1 0)]) rfl ?_
  rw [nI_add]
  refine x_sald (j := i + 1) rfl R.c28 (mm_idx_nI (by omega) (by omega)) ?_
  refine x_run 4 (pc' := 1179) (lv' := [(4, .int (nI i)), (0, .ref (X.1 28)), (1, .ref (X.1 0)), (2, .ref (X.1 8)), (3, .ref (X.1 27))]) (st' := [.int ((nI i) + (nI 2)), .ref (X.1 28), .int (X.2.2.2 (i + 1)), .ref (X.1 0)]) rfl ?_
  rw [nI_add]
  refine x_sald (j := i + 2) rfl R.c28 (mm_idx_nI (by omega) (by omega)) ?_
  refine x_run 1 (pc' := 1181) (lv' := [(4, .int (nI i)), (0, .ref (X.1 28)), (1, .ref (X.1 0)), (2, .ref (X.1 8)), (3, .ref (X.1 27))]) (st' := [.ref (X.1 27), .int (X.2.2.2 (i + 2)), .int (X.2.2.2 (i + 1)), .ref (X.1 0)]) rfl ?_
  refine x_wr (v := .int (cd 7 5 99 99 o.1)) (A := RX u (v + 1020) X P (zo o z) o.2.2) (k' := 109) (as := [.ref (X.1 0), .int (X.2.2.2 (i + 1)), .int (X.2.2.2 (i + 2)), .ref (X.1 27)]) (rest := []) (x_isS (np := 4) rfl rfl rfl rfl rfl) (h_entry R (wc u (v + 1020) X P z h d R h0) ho) (fun h R => ?_)
  obtain ⟨X2, R, eX, eT⟩ := R
  refine x_lv (a := [(4, .int (nI i)), (0, .ref (X.1 28)), (1, .ref (X.1 0)), (2, .ref (X.1 8)), (3, .ref (X.1 27))]) rfl rfl ⟨rfl, rfl, rfl, rfl, rfl, trivial⟩ ?_
  rw [← eT 0 (by omega), ← eT 8 (by omega), ← eT 27 (by omega), ← eT 28 (by omega)]
  refine s2_entry (X := X2) R (by rw [eX]; exact hl) (by rw [eX]; exact hL) (by rw [eX]; exact (wm u v X2 o.2.2 (zo o z) h (d + 1) R).mono (fun r e => mC_L (by decide) ho e)) (fun z h R => kk X2 o.2.2 z h R hI2 eX eT)
end LAW1
