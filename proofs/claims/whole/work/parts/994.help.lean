section HELP
variable {u v d : Nat} {X : xX} {P M : pP} {z : zZ} {h : mm_H} {i j : Nat}
def vL : Option Value → Int64
  | some (.long x) => x
  | some (.int x) => x.toInt64
  | _ => 0
/-- the value lies in the first place of out -/
def zo (o : oO) (z : zZ) : zZ := if o.1 = 0 then (z.1, s2 z.2 5 0 (vL o.2.1)) else z
def hQ (u v : Nat) (X : xX) (M : pP) (c : Int32) (P' : pP) (z' : zZ) (r : mm_O × mm_H) : Prop := r.1 = .inl (some (.int c)) ∧ RX u v X M z' P' r.2
theorem h_claim {u0 v0 : Nat} {q : Int32} {n : Int64} {o : oO} (R0 : Rep u0 v0 X P M z h) (wc : Wx (d + 7) 1 0 (lv_args 0 [.ref (X.1 0), .int (q), .long (n)]) [] h (pQ (RX u v X M z) o)) (ho : hoI 5 8 6 99 o) : Wx (d + 8) 95 0 (lv_args 0 [.ref (X.1 0), .int (q), .long (n), .ref (X.1 27)]) [] h (hQ u v X M (cd 5 8 6 99 o.1) o.2.2 (zo o z)) := by
  rcases ho with ⟨e, x, ex⟩ | ⟨e, ne⟩ | ⟨e, ne⟩ | ⟨e, ne⟩ | ⟨e, ne⟩
  · obtain ⟨o1, o2, o3⟩ := o
    replace e : o1 = 0 := e
    replace ex : o2 = some (.int x) := ex
    subst e ex
    show Wx _ _ 0 [(0, .ref (X.1 0)), (1, .int (q)), (2, .long (n)), (4, .ref (X.1 27))] [] h _
    refine x_run 5 (pc' := 6) (lv' := [(0, .ref (X.1 0)), (1, .int (q)), (2, .long (n)), (4, .ref (X.1 27))]) (st' := [.long (n), .int (q), .ref (X.1 0), .int (0), .ref (X.1 27)]) rfl ?_
    refine x_wr (v := .int x) (A := RX u v X M z o3) (k' := 1) (as := [.ref (X.1 0), .int (q), .long (n)]) (rest := [.int (0), .ref (X.1 27)]) (x_isV (np := 2) rfl rfl rfl R0.c0 rfl) wc (fun h R => ?_)
    obtain ⟨X, R, eX, eT⟩ := R
    rw [← eT 0 (by omega), ← eT 27 (by omega)]
    refine x_run 1 (pc' := 10) (lv' := [(0, .ref (X.1 0)), (1, .int (q)), (2, .long (n)), (4, .ref (X.1 27))]) (st' := [.long ((x).toInt64), .int (0), .ref (X.1 27)]) rfl ?_
    refine x_last (j := 0) rfl R.c27 (mm_idx_nI (i := 0) (by omega) (by omega)) ?_
    refine gen_h (A := Rep u v X o3 M ((z.1, s2 z.2 5 0 ((x).toInt64)))) (R.uOut _) (fun h R => ?_)
    refine x_run 2 (pc' := 27) (lv' := [(0, .ref (X.1 0)), (1, .int (q)), (2, .long (n)), (4, .ref (X.1 27))]) (st' := [.int (0)]) rfl ?_
    exact x_ret (v := some (.int (0))) rfl rfl rfl ⟨rfl, X, R, eX, eT⟩
  · obtain ⟨o1, o2, o3⟩ := o
    replace e : o1 = 5 := e
    subst e
    show Wx _ _ 0 [(0, .ref (X.1 0)), (1, .int (q)), (2, .long (n)), (4, .ref (X.1 27))] [] h _
    refine x_run 5 (pc' := 6) (lv' := [(0, .ref (X.1 0)), (1, .int (q)), (2, .long (n)), (4, .ref (X.1 27))]) (st' := [.long (n), .int (q), .ref (X.1 0), .int (0), .ref (X.1 27)]) rfl ?_
    refine x_ca (x := 5) (pc' := 14) (A := RX u v X M z o3) (k' := 1) (as := [.ref (X.1 0), .int (q), .long (n)]) (rest := [.int (0), .ref (X.1 27)]) (x_isV (np := 2) rfl rfl rfl R0.c0 rfl) rfl wc (fun a h R => ?_)
    refine x_run 2 (pc' := 17) (lv' := [(5, .ref (a)), (0, .ref (X.1 0)), (1, .int (q)), (2, .long (n)), (4, .ref (X.1 27))]) (st' := [.int (1)]) rfl ?_
    exact x_ret (v := some (.int (1))) rfl rfl rfl ⟨rfl, R⟩
  · obtain ⟨o1, o2, o3⟩ := o
    replace e : o1 = 8 := e
    subst e
    show Wx _ _ 0 [(0, .ref (X.1 0)), (1, .int (q)), (2, .long (n)), (4, .ref (X.1 27))] [] h _
    refine x_run 5 (pc' := 6) (lv' := [(0, .ref (X.1 0)), (1, .int (q)), (2, .long (n)), (4, .ref (X.1 27))]) (st' := [.long (n), .int (q), .ref (X.1 0), .int (0), .ref (X.1 27)]) rfl ?_
    refine x_ca (x := 8) (pc' := 18) (A := RX u v X M z o3) (k' := 1) (as := [.ref (X.1 0), .int (q), .long (n)]) (rest := [.int (0), .ref (X.1 27)]) (x_isV (np := 2) rfl rfl rfl R0.c0 rfl) rfl wc (fun a h R => ?_)
    refine x_run 2 (pc' := 21) (lv' := [(5, .ref (a)), (0, .ref (X.1 0)), (1, .int (q)), (2, .long (n)), (4, .ref (X.1 27))]) (st' := [.int (2)]) rfl ?_
    exact x_ret (v := some (.int (2))) rfl rfl rfl ⟨rfl, R⟩
  · obtain ⟨o1, o2, o3⟩ := o
    replace e : o1 = 6 := e
    subst e
    show Wx _ _ 0 [(0, .ref (X.1 0)), (1, .int (q)), (2, .long (n)), (4, .ref (X.1 27))] [] h _
    refine x_run 5 (pc' := 6) (lv' := [(0, .ref (X.1 0)), (1, .int (q)), (2, .long (n)), (4, .ref (X.1 27))]) (st' := [.long (n), .int (q), .ref (X.1 0), .int (0), .ref (X.1 27)]) rfl ?_
    refine x_ca (x := 6) (pc' := 22) (A := RX u v X M z o3) (k' := 1) (as := [.ref (X.1 0), .int (q), .long (n)]) (rest := [.int (0), .ref (X.1 27)]) (x_isV (np := 2) rfl rfl rfl R0.c0 rfl) rfl wc (fun a h R => ?_)
    refine x_run 2 (pc' := 25) (lv' := [(5, .ref (a)), (0, .ref (X.1 0)), (1, .int (q)), (2, .long (n)), (4, .ref (X.1 27))]) (st' := [.int (3)]) rfl ?_
    exact x_ret (v := some (.int (3))) rfl rfl rfl ⟨rfl, R⟩
  · exact absurd rfl ne
theorem h_owes {u0 v0 : Nat} {q : Int32} {n : Int64} {o : oO} (R0 : Rep u0 v0 X P M z h) (wc : Wx (d + 7) 2 0 (lv_args 0 [.ref (X.1 0), .int (q), .long (n)]) [] h (pQ (RX u v X M z) o)) (ho : hoL 7 5 6 99 o) : Wx (d + 8) 96 0 (lv_args 0 [.ref (X.1 0), .int (q), .long (n), .ref (X.1 27)]) [] h (hQ u v X M (cd 7 5 6 99 o.1) o.2.2 (zo o z)) := by
  rcases ho with ⟨e, x, ex⟩ | ⟨e, ne⟩ | ⟨e, ne⟩ | ⟨e, ne⟩ | ⟨e, ne⟩
  · obtain ⟨o1, o2, o3⟩ := o
    replace e : o1 = 0 := e
    replace ex : o2 = some (.long x) := ex
    subst e ex
    show Wx _ _ 0 [(0, .ref (X.1 0)), (1, .int (q)), (2, .long (n)), (4, .ref (X.1 27))] [] h _
    refine x_run 5 (pc' := 6) (lv' := [(0, .ref (X.1 0)), (1, .int (q)), (2, .long (n)), (4, .ref (X.1 27))]) (st' := [.long (n), .int (q), .ref (X.1 0), .int (0), .ref (X.1 27)]) rfl ?_
    refine x_wr (v := .long x) (A := RX u v X M z o3) (k' := 2) (as := [.ref (X.1 0), .int (q), .long (n)]) (rest := [.int (0), .ref (X.1 27)]) (x_isV (np := 2) rfl rfl rfl R0.c0 rfl) wc (fun h R => ?_)
    obtain ⟨X, R, eX, eT⟩ := R
    rw [← eT 0 (by omega), ← eT 27 (by omega)]
    refine x_last (j := 0) rfl R.c27 (mm_idx_nI (i := 0) (by omega) (by omega)) ?_
    refine gen_h (A := Rep u v X o3 M ((z.1, s2 z.2 5 0 (x)))) (R.uOut _) (fun h R => ?_)
    refine x_run 2 (pc' := 26) (lv' := [(0, .ref (X.1 0)), (1, .int (q)), (2, .long (n)), (4, .ref (X.1 27))]) (st' := [.int (0)]) rfl ?_
    exact x_ret (v := some (.int (0))) rfl rfl rfl ⟨rfl, X, R, eX, eT⟩
  · obtain ⟨o1, o2, o3⟩ := o
    replace e : o1 = 7 := e
    subst e
    show Wx _ _ 0 [(0, .ref (X.1 0)), (1, .int (q)), (2, .long (n)), (4, .ref (X.1 27))] [] h _
    refine x_run 5 (pc' := 6) (lv' := [(0, .ref (X.1 0)), (1, .int (q)), (2, .long (n)), (4, .ref (X.1 27))]) (st' := [.long (n), .int (q), .ref (X.1 0), .int (0), .ref (X.1 27)]) rfl ?_
    refine x_ca (x := 7) (pc' := 13) (A := RX u v X M z o3) (k' := 2) (as := [.ref (X.1 0), .int (q), .long (n)]) (rest := [.int (0), .ref (X.1 27)]) (x_isV (np := 2) rfl rfl rfl R0.c0 rfl) rfl wc (fun a h R => ?_)
    refine x_run 2 (pc' := 16) (lv' := [(5, .ref (a)), (0, .ref (X.1 0)), (1, .int (q)), (2, .long (n)), (4, .ref (X.1 27))]) (st' := [.int (1)]) rfl ?_
    exact x_ret (v := some (.int (1))) rfl rfl rfl ⟨rfl, R⟩
  · obtain ⟨o1, o2, o3⟩ := o
    replace e : o1 = 5 := e
    subst e
    show Wx _ _ 0 [(0, .ref (X.1 0)), (1, .int (q)), (2, .long (n)), (4, .ref (X.1 27))] [] h _
    refine x_run 5 (pc' := 6) (lv' := [(0, .ref (X.1 0)), (1, .int (q)), (2, .long (n)), (4, .ref (X.1 27))]) (st' := [.long (n), .int (q), .ref (X.1 0), .int (0), .ref (X.1 27)]) rfl ?_
    refine x_ca (x := 5) (pc' := 17) (A := RX u v X M z o3) (k' := 2) (as := [.ref (X.1 0), .int (q), .long (n)]) (rest := [.int (0), .ref (X.1 27)]) (x_isV (np := 2) rfl rfl rfl R0.c0 rfl) rfl wc (fun a h R => ?_)
    refine x_run 2 (pc' := 20) (lv' := [(5, .ref (a)), (0, .ref (X.1 0)), (1, .int (q)), (2, .long (n)), (4, .ref (X.1 27))]) (st' := [.int (2)]) rfl ?_
    exact x_ret (v := some (.int (2))) rfl rfl rfl ⟨rfl, R⟩
  · obtain ⟨o1, o2, o3⟩ := o
    replace e : o1 = 6 := e
    subst e
    show Wx _ _ 0 [(0, .ref (X.1 0)), (1, .int (q)), (2, .long (n)), (4, .ref (X.1 27))] [] h _
    refine x_run 5 (pc' := 6) (lv' := [(0, .ref (X.1 0)), (1, .int (q)), (2, .long (n)), (4, .ref (X.1 27))]) (st' := [.long (n), .int (q), .ref (X.1 0), .int (0), .ref (X.1 27)]) rfl ?_
    refine x_ca (x := 6) (pc' := 21) (A := RX u v X M z o3) (k' := 2) (as := [.ref (X.1 0), .int (q), .long (n)]) (rest := [.int (0), .ref (X.1 27)]) (x_isV (np := 2) rfl rfl rfl R0.c0 rfl) rfl wc (fun a h R => ?_)
    refine x_run 2 (pc' := 24) (lv' := [(5, .ref (a)), (0, .ref (X.1 0)), (1, .int (q)), (2, .long (n)), (4, .ref (X.1 27))]) (st' := [.int (3)]) rfl ?_
    exact x_ret (v := some (.int (3))) rfl rfl rfl ⟨rfl, R⟩
  · exact absurd rfl ne
theorem h_asset {u0 v0 : Nat} {o : oO} (R0 : Rep u0 v0 X P M z h) (wc : Wx (d + 7) 3 0 (lv_args 0 [.ref (X.1 0)]) [] h (pQ (RX u v X M z) o)) (ho : hoI 8 6 99 99 o) : Wx (d + 8) 97 0 (lv_args 0 [.ref (X.1 0), .ref (X.1 27)]) [] h (hQ u v X M (cd 8 6 99 99 o.1) o.2.2 (zo o z)) := by
  rcases ho with ⟨e, x, ex⟩ | ⟨e, ne⟩ | ⟨e, ne⟩ | ⟨e, ne⟩ | ⟨e, ne⟩
  · obtain ⟨o1, o2, o3⟩ := o
    replace e : o1 = 0 := e
    replace ex : o2 = some (.int x) := ex
    subst e ex
    show Wx _ _ 0 [(0, .ref (X.1 0)), (1, .ref (X.1 27))] [] h _
    refine x_run 3 (pc' := 3) (lv' := [(0, .ref (X.1 0)), (1, .ref (X.1 27))]) (st' := [.ref (X.1 0), .int (0), .ref (X.1 27)]) rfl ?_
    refine x_wr (v := .int x) (A := RX u v X M z o3) (k' := 3) (as := [.ref (X.1 0)]) (rest := [.int (0), .ref (X.1 27)]) (x_isV (np := 0) rfl rfl rfl R0.c0 rfl) wc (fun h R => ?_)
    obtain ⟨X, R, eX, eT⟩ := R
    rw [← eT 0 (by omega), ← eT 27 (by omega)]
    refine x_run 1 (pc' := 7) (lv' := [(0, .ref (X.1 0)), (1, .ref (X.1 27))]) (st' := [.long ((x).toInt64), .int (0), .ref (X.1 27)]) rfl ?_
    refine x_last (j := 0) rfl R.c27 (mm_idx_nI (i := 0) (by omega) (by omega)) ?_
    refine gen_h (A := Rep u v X o3 M ((z.1, s2 z.2 5 0 ((x).toInt64)))) (R.uOut _) (fun h R => ?_)
    refine x_run 2 (pc' := 18) (lv' := [(0, .ref (X.1 0)), (1, .ref (X.1 27))]) (st' := [.int (0)]) rfl ?_
    exact x_ret (v := some (.int (0))) rfl rfl rfl ⟨rfl, X, R, eX, eT⟩
  · obtain ⟨o1, o2, o3⟩ := o
    replace e : o1 = 8 := e
    subst e
    show Wx _ _ 0 [(0, .ref (X.1 0)), (1, .ref (X.1 27))] [] h _
    refine x_run 3 (pc' := 3) (lv' := [(0, .ref (X.1 0)), (1, .ref (X.1 27))]) (st' := [.ref (X.1 0), .int (0), .ref (X.1 27)]) rfl ?_
    refine x_ca (x := 8) (pc' := 11) (A := RX u v X M z o3) (k' := 3) (as := [.ref (X.1 0)]) (rest := [.int (0), .ref (X.1 27)]) (x_isV (np := 0) rfl rfl rfl R0.c0 rfl) rfl wc (fun a h R => ?_)
    refine x_run 2 (pc' := 13) (lv' := [(2, .ref (a)), (0, .ref (X.1 0)), (1, .ref (X.1 27))]) (st' := [.int (1)]) rfl ?_
    exact x_ret (v := some (.int (1))) rfl rfl rfl ⟨rfl, R⟩
  · obtain ⟨o1, o2, o3⟩ := o
    replace e : o1 = 6 := e
    subst e
    show Wx _ _ 0 [(0, .ref (X.1 0)), (1, .ref (X.1 27))] [] h _
    refine x_run 3 (pc' := 3) (lv' := [(0, .ref (X.1 0)), (1, .ref (X.1 27))]) (st' := [.ref (X.1 0), .int (0), .ref (X.1 27)]) rfl ?_
    refine x_ca (x := 6) (pc' := 14) (A := RX u v X M z o3) (k' := 3) (as := [.ref (X.1 0)]) (rest := [.int (0), .ref (X.1 27)]) (x_isV (np := 0) rfl rfl rfl R0.c0 rfl) rfl wc (fun a h R => ?_)
    refine x_run 2 (pc' := 16) (lv' := [(2, .ref (a)), (0, .ref (X.1 0)), (1, .ref (X.1 27))]) (st' := [.int (2)]) rfl ?_
    exact x_ret (v := some (.int (2))) rfl rfl rfl ⟨rfl, R⟩
  · exact absurd rfl ne
  · exact absurd rfl ne
theorem h_sec {u0 v0 : Nat} {q : Int32} {c : Int32} {n : Int64} {o : oO} (R0 : Rep u0 v0 X P M z h) (wc : Wx (d + 7) 4 0 (lv_args 0 [.ref (X.1 0), .int (q), .int (c), .long (n)]) [] h (pQ (RX u v X M z) o)) (ho : hoI 7 5 8 6 o) : Wx (d + 8) 98 0 (lv_args 0 [.ref (X.1 0), .int (q), .int (c), .long (n), .ref (X.1 27)]) [] h (hQ u v X M (cd 7 5 8 6 o.1) o.2.2 (zo o z)) := by
  rcases ho with ⟨e, x, ex⟩ | ⟨e, ne⟩ | ⟨e, ne⟩ | ⟨e, ne⟩ | ⟨e, ne⟩
  · obtain ⟨o1, o2, o3⟩ := o
    replace e : o1 = 0 := e
    replace ex : o2 = some (.int x) := ex
    subst e ex
    show Wx _ _ 0 [(0, .ref (X.1 0)), (1, .int (q)), (2, .int (c)), (3, .long (n)), (5, .ref (X.1 27))] [] h _
    refine x_run 6 (pc' := 7) (lv' := [(0, .ref (X.1 0)), (1, .int (q)), (2, .int (c)), (3, .long (n)), (5, .ref (X.1 27))]) (st' := [.long (n), .int (c), .int (q), .ref (X.1 0), .int (0), .ref (X.1 27)]) rfl ?_
    refine x_wr (v := .int x) (A := RX u v X M z o3) (k' := 4) (as := [.ref (X.1 0), .int (q), .int (c), .long (n)]) (rest := [.int (0), .ref (X.1 27)]) (x_isV (np := 3) rfl rfl rfl R0.c0 rfl) wc (fun h R => ?_)
    obtain ⟨X, R, eX, eT⟩ := R
    rw [← eT 0 (by omega), ← eT 27 (by omega)]
    refine x_run 1 (pc' := 11) (lv' := [(0, .ref (X.1 0)), (1, .int (q)), (2, .int (c)), (3, .long (n)), (5, .ref (X.1 27))]) (st' := [.long ((x).toInt64), .int (0), .ref (X.1 27)]) rfl ?_
    refine x_last (j := 0) rfl R.c27 (mm_idx_nI (i := 0) (by omega) (by omega)) ?_
    refine gen_h (A := Rep u v X o3 M ((z.1, s2 z.2 5 0 ((x).toInt64)))) (R.uOut _) (fun h R => ?_)
    refine x_run 2 (pc' := 32) (lv' := [(0, .ref (X.1 0)), (1, .int (q)), (2, .int (c)), (3, .long (n)), (5, .ref (X.1 27))]) (st' := [.int (0)]) rfl ?_
    exact x_ret (v := some (.int (0))) rfl rfl rfl ⟨rfl, X, R, eX, eT⟩
  · obtain ⟨o1, o2, o3⟩ := o
    replace e : o1 = 7 := e
    subst e
    show Wx _ _ 0 [(0, .ref (X.1 0)), (1, .int (q)), (2, .int (c)), (3, .long (n)), (5, .ref (X.1 27))] [] h _
    refine x_run 6 (pc' := 7) (lv' := [(0, .ref (X.1 0)), (1, .int (q)), (2, .int (c)), (3, .long (n)), (5, .ref (X.1 27))]) (st' := [.long (n), .int (c), .int (q), .ref (X.1 0), .int (0), .ref (X.1 27)]) rfl ?_
    refine x_ca (x := 7) (pc' := 15) (A := RX u v X M z o3) (k' := 4) (as := [.ref (X.1 0), .int (q), .int (c), .long (n)]) (rest := [.int (0), .ref (X.1 27)]) (x_isV (np := 3) rfl rfl rfl R0.c0 rfl) rfl wc (fun a h R => ?_)
    refine x_run 2 (pc' := 18) (lv' := [(6, .ref (a)), (0, .ref (X.1 0)), (1, .int (q)), (2, .int (c)), (3, .long (n)), (5, .ref (X.1 27))]) (st' := [.int (1)]) rfl ?_
    exact x_ret (v := some (.int (1))) rfl rfl rfl ⟨rfl, R⟩
  · obtain ⟨o1, o2, o3⟩ := o
    replace e : o1 = 5 := e
    subst e
    show Wx _ _ 0 [(0, .ref (X.1 0)), (1, .int (q)), (2, .int (c)), (3, .long (n)), (5, .ref (X.1 27))] [] h _
    refine x_run 6 (pc' := 7) (lv' := [(0, .ref (X.1 0)), (1, .int (q)), (2, .int (c)), (3, .long (n)), (5, .ref (X.1 27))]) (st' := [.long (n), .int (c), .int (q), .ref (X.1 0), .int (0), .ref (X.1 27)]) rfl ?_
    refine x_ca (x := 5) (pc' := 19) (A := RX u v X M z o3) (k' := 4) (as := [.ref (X.1 0), .int (q), .int (c), .long (n)]) (rest := [.int (0), .ref (X.1 27)]) (x_isV (np := 3) rfl rfl rfl R0.c0 rfl) rfl wc (fun a h R => ?_)
    refine x_run 2 (pc' := 22) (lv' := [(6, .ref (a)), (0, .ref (X.1 0)), (1, .int (q)), (2, .int (c)), (3, .long (n)), (5, .ref (X.1 27))]) (st' := [.int (2)]) rfl ?_
    exact x_ret (v := some (.int (2))) rfl rfl rfl ⟨rfl, R⟩
  · obtain ⟨o1, o2, o3⟩ := o
    replace e : o1 = 8 := e
    subst e
    show Wx _ _ 0 [(0, .ref (X.1 0)), (1, .int (q)), (2, .int (c)), (3, .long (n)), (5, .ref (X.1 27))] [] h _
    refine x_run 6 (pc' := 7) (lv' := [(0, .ref (X.1 0)), (1, .int (q)), (2, .int (c)), (3, .long (n)), (5, .ref (X.1 27))]) (st' := [.long (n), .int (c), .int (q), .ref (X.1 0), .int (0), .ref (X.1 27)]) rfl ?_
    refine x_ca (x := 8) (pc' := 23) (A := RX u v X M z o3) (k' := 4) (as := [.ref (X.1 0), .int (q), .int (c), .long (n)]) (rest := [.int (0), .ref (X.1 27)]) (x_isV (np := 3) rfl rfl rfl R0.c0 rfl) rfl wc (fun a h R => ?_)
    refine x_run 2 (pc' := 26) (lv' := [(6, .ref (a)), (0, .ref (X.1 0)), (1, .int (q)), (2, .int (c)), (3, .long (n)), (5, .ref (X.1 27))]) (st' := [.int (3)]) rfl ?_
    exact x_ret (v := some (.int (3))) rfl rfl rfl ⟨rfl, R⟩
  · obtain ⟨o1, o2, o3⟩ := o
    replace e : o1 = 6 := e
    subst e
    show Wx _ _ 0 [(0, .ref (X.1 0)), (1, .int (q)), (2, .int (c)), (3, .long (n)), (5, .ref (X.1 27))] [] h _
    refine x_run 6 (pc' := 7) (lv' := [(0, .ref (X.1 0)), (1, .int (q)), (2, .int (c)), (3, .long (n)), (5, .ref (X.1 27))]) (st' := [.long (n), .int (c), .int (q), .ref (X.1 0), .int (0), .ref (X.1 27)]) rfl ?_
    refine x_ca (x := 6) (pc' := 27) (A := RX u v X M z o3) (k' := 4) (as := [.ref (X.1 0), .int (q), .int (c), .long (n)]) (rest := [.int (0), .ref (X.1 27)]) (x_isV (np := 3) rfl rfl rfl R0.c0 rfl) rfl wc (fun a h R => ?_)
    refine x_run 2 (pc' := 30) (lv' := [(6, .ref (a)), (0, .ref (X.1 0)), (1, .int (q)), (2, .int (c)), (3, .long (n)), (5, .ref (X.1 27))]) (st' := [.int (4)]) rfl ?_
    exact x_ret (v := some (.int (4))) rfl rfl rfl ⟨rfl, R⟩
theorem h_real {u0 v0 : Nat} {q : Int32} {n : Int64} {o : oO} (R0 : Rep u0 v0 X P M z h) (wc : Wx (d + 7) 5 0 (lv_args 0 [.ref (X.1 0), .int (q), .long (n)]) [] h (pQ (RX u v X M z) o)) (ho : hoL 7 5 6 99 o) : Wx (d + 8) 99 0 (lv_args 0 [.ref (X.1 0), .int (q), .long (n), .ref (X.1 27)]) [] h (hQ u v X M (cd 7 5 6 99 o.1) o.2.2 (zo o z)) := by
  rcases ho with ⟨e, x, ex⟩ | ⟨e, ne⟩ | ⟨e, ne⟩ | ⟨e, ne⟩ | ⟨e, ne⟩
  · obtain ⟨o1, o2, o3⟩ := o
    replace e : o1 = 0 := e
    replace ex : o2 = some (.long x) := ex
    subst e ex
    show Wx _ _ 0 [(0, .ref (X.1 0)), (1, .int (q)), (2, .long (n)), (4, .ref (X.1 27))] [] h _
    refine x_run 5 (pc' := 6) (lv' := [(0, .ref (X.1 0)), (1, .int (q)), (2, .long (n)), (4, .ref (X.1 27))]) (st' := [.long (n), .int (q), .ref (X.1 0), .int (0), .ref (X.1 27)]) rfl ?_
    refine x_wr (v := .long x) (A := RX u v X M z o3) (k' := 5) (as := [.ref (X.1 0), .int (q), .long (n)]) (rest := [.int (0), .ref (X.1 27)]) (x_isV (np := 2) rfl rfl rfl R0.c0 rfl) wc (fun h R => ?_)
    obtain ⟨X, R, eX, eT⟩ := R
    rw [← eT 0 (by omega), ← eT 27 (by omega)]
    refine x_last (j := 0) rfl R.c27 (mm_idx_nI (i := 0) (by omega) (by omega)) ?_
    refine gen_h (A := Rep u v X o3 M ((z.1, s2 z.2 5 0 (x)))) (R.uOut _) (fun h R => ?_)
    refine x_run 2 (pc' := 26) (lv' := [(0, .ref (X.1 0)), (1, .int (q)), (2, .long (n)), (4, .ref (X.1 27))]) (st' := [.int (0)]) rfl ?_
    exact x_ret (v := some (.int (0))) rfl rfl rfl ⟨rfl, X, R, eX, eT⟩
  · obtain ⟨o1, o2, o3⟩ := o
    replace e : o1 = 7 := e
    subst e
    show Wx _ _ 0 [(0, .ref (X.1 0)), (1, .int (q)), (2, .long (n)), (4, .ref (X.1 27))] [] h _
    refine x_run 5 (pc' := 6) (lv' := [(0, .ref (X.1 0)), (1, .int (q)), (2, .long (n)), (4, .ref (X.1 27))]) (st' := [.long (n), .int (q), .ref (X.1 0), .int (0), .ref (X.1 27)]) rfl ?_
    refine x_ca (x := 7) (pc' := 13) (A := RX u v X M z o3) (k' := 5) (as := [.ref (X.1 0), .int (q), .long (n)]) (rest := [.int (0), .ref (X.1 27)]) (x_isV (np := 2) rfl rfl rfl R0.c0 rfl) rfl wc (fun a h R => ?_)
    refine x_run 2 (pc' := 16) (lv' := [(5, .ref (a)), (0, .ref (X.1 0)), (1, .int (q)), (2, .long (n)), (4, .ref (X.1 27))]) (st' := [.int (1)]) rfl ?_
    exact x_ret (v := some (.int (1))) rfl rfl rfl ⟨rfl, R⟩
  · obtain ⟨o1, o2, o3⟩ := o
    replace e : o1 = 5 := e
    subst e
    show Wx _ _ 0 [(0, .ref (X.1 0)), (1, .int (q)), (2, .long (n)), (4, .ref (X.1 27))] [] h _
    refine x_run 5 (pc' := 6) (lv' := [(0, .ref (X.1 0)), (1, .int (q)), (2, .long (n)), (4, .ref (X.1 27))]) (st' := [.long (n), .int (q), .ref (X.1 0), .int (0), .ref (X.1 27)]) rfl ?_
    refine x_ca (x := 5) (pc' := 17) (A := RX u v X M z o3) (k' := 5) (as := [.ref (X.1 0), .int (q), .long (n)]) (rest := [.int (0), .ref (X.1 27)]) (x_isV (np := 2) rfl rfl rfl R0.c0 rfl) rfl wc (fun a h R => ?_)
    refine x_run 2 (pc' := 20) (lv' := [(5, .ref (a)), (0, .ref (X.1 0)), (1, .int (q)), (2, .long (n)), (4, .ref (X.1 27))]) (st' := [.int (2)]) rfl ?_
    exact x_ret (v := some (.int (2))) rfl rfl rfl ⟨rfl, R⟩
  · obtain ⟨o1, o2, o3⟩ := o
    replace e : o1 = 6 := e
    subst e
    show Wx _ _ 0 [(0, .ref (X.1 0)), (1, .int (q)), (2, .long (n)), (4, .ref (X.1 27))] [] h _
    refine x_run 5 (pc' := 6) (lv' := [(0, .ref (X.1 0)), (1, .int (q)), (2, .long (n)), (4, .ref (X.1 27))]) (st' := [.long (n), .int (q), .ref (X.1 0), .int (0), .ref (X.1 27)]) rfl ?_
    refine x_ca (x := 6) (pc' := 21) (A := RX u v X M z o3) (k' := 5) (as := [.ref (X.1 0), .int (q), .long (n)]) (rest := [.int (0), .ref (X.1 27)]) (x_isV (np := 2) rfl rfl rfl R0.c0 rfl) rfl wc (fun a h R => ?_)
    refine x_run 2 (pc' := 24) (lv' := [(5, .ref (a)), (0, .ref (X.1 0)), (1, .int (q)), (2, .long (n)), (4, .ref (X.1 27))]) (st' := [.int (3)]) rfl ?_
    exact x_ret (v := some (.int (3))) rfl rfl rfl ⟨rfl, R⟩
  · exact absurd rfl ne
theorem h_contest {u0 v0 : Nat} {q : Int32} {o : oO} (R0 : Rep u0 v0 X P M z h) (wc : Wx (d + 7) 6 0 (lv_args 0 [.ref (X.1 0), .int (q)]) [] h (pQ (RX u v X M z) o)) (ho : hoN 7 6 99 99 o) : Wx (d + 8) 100 0 (lv_args 0 [.ref (X.1 0), .int (q)]) [] h (hQ u v X M (cd 7 6 99 99 o.1) o.2.2 z) := by
  rcases ho with ⟨e, ex⟩ | ⟨e, ne⟩ | ⟨e, ne⟩ | ⟨e, ne⟩ | ⟨e, ne⟩
  · obtain ⟨o1, o2, o3⟩ := o
    replace e : o1 = 0 := e
    replace ex : o2 = none := ex
    subst e ex
    show Wx _ _ 0 [(0, .ref (X.1 0)), (1, .int (q))] [] h _
    refine x_run 2 (pc' := 2) (lv' := [(0, .ref (X.1 0)), (1, .int (q))]) (st' := [.int (q), .ref (X.1 0)]) rfl ?_
    refine x_wr0 (A := RX u v X M z o3) (k' := 6) (as := [.ref (X.1 0), .int (q)]) (rest := []) (x_isV (np := 1) rfl rfl rfl R0.c0 rfl) wc (fun h R => ?_)
    obtain ⟨X, R, eX, eT⟩ := R
    rw [← eT 0 (by omega)]
    refine x_run 2 (pc' := 15) (lv' := [(0, .ref (X.1 0)), (1, .int (q))]) (st' := [.int (0)]) rfl ?_
    exact x_ret (v := some (.int (0))) rfl rfl rfl ⟨rfl, X, R, eX, eT⟩
  · obtain ⟨o1, o2, o3⟩ := o
    replace e : o1 = 7 := e
    subst e
    show Wx _ _ 0 [(0, .ref (X.1 0)), (1, .int (q))] [] h _
    refine x_run 2 (pc' := 2) (lv' := [(0, .ref (X.1 0)), (1, .int (q))]) (st' := [.int (q), .ref (X.1 0)]) rfl ?_
    refine x_ca (x := 7) (pc' := 8) (A := RX u v X M z o3) (k' := 6) (as := [.ref (X.1 0), .int (q)]) (rest := []) (x_isV (np := 1) rfl rfl rfl R0.c0 rfl) rfl wc (fun a h R => ?_)
    refine x_run 2 (pc' := 10) (lv' := [(2, .ref (a)), (0, .ref (X.1 0)), (1, .int (q))]) (st' := [.int (1)]) rfl ?_
    exact x_ret (v := some (.int (1))) rfl rfl rfl ⟨rfl, R⟩
  · obtain ⟨o1, o2, o3⟩ := o
    replace e : o1 = 6 := e
    subst e
    show Wx _ _ 0 [(0, .ref (X.1 0)), (1, .int (q))] [] h _
    refine x_run 2 (pc' := 2) (lv' := [(0, .ref (X.1 0)), (1, .int (q))]) (st' := [.int (q), .ref (X.1 0)]) rfl ?_
    refine x_ca (x := 6) (pc' := 11) (A := RX u v X M z o3) (k' := 6) (as := [.ref (X.1 0), .int (q)]) (rest := []) (x_isV (np := 1) rfl rfl rfl R0.c0 rfl) rfl wc (fun a h R => ?_)
    refine x_run 2 (pc' := 13) (lv' := [(2, .ref (a)), (0, .ref (X.1 0)), (1, .int (q))]) (st' := [.int (2)]) rfl ?_
    exact x_ret (v := some (.int (2))) rfl rfl rfl ⟨rfl, R⟩
  · exact absurd rfl ne
  · exact absurd rfl ne
theorem h_settle {u0 v0 : Nat} {q : Int32} {n : Int64} {o : oO} (R0 : Rep u0 v0 X P M z h) (wc : Wx (d + 7) 7 0 (lv_args 0 [.ref (X.1 0), .int (q), .long (n)]) [] h (pQ (RX u v X M z) o)) (ho : hoL 7 5 6 99 o) : Wx (d + 8) 101 0 (lv_args 0 [.ref (X.1 0), .int (q), .long (n), .ref (X.1 27)]) [] h (hQ u v X M (cd 7 5 6 99 o.1) o.2.2 (zo o z)) := by
  rcases ho with ⟨e, x, ex⟩ | ⟨e, ne⟩ | ⟨e, ne⟩ | ⟨e, ne⟩ | ⟨e, ne⟩
  · obtain ⟨o1, o2, o3⟩ := o
    replace e : o1 = 0 := e
    replace ex : o2 = some (.long x) := ex
    subst e ex
    show Wx _ _ 0 [(0, .ref (X.1 0)), (1, .int (q)), (2, .long (n)), (4, .ref (X.1 27))] [] h _
    refine x_run 5 (pc' := 6) (lv' := [(0, .ref (X.1 0)), (1, .int (q)), (2, .long (n)), (4, .ref (X.1 27))]) (st' := [.long (n), .int (q), .ref (X.1 0), .int (0), .ref (X.1 27)]) rfl ?_
    refine x_wr (v := .long x) (A := RX u v X M z o3) (k' := 7) (as := [.ref (X.1 0), .int (q), .long (n)]) (rest := [.int (0), .ref (X.1 27)]) (x_isV (np := 2) rfl rfl rfl R0.c0 rfl) wc (fun h R => ?_)
    obtain ⟨X, R, eX, eT⟩ := R
    rw [← eT 0 (by omega), ← eT 27 (by omega)]
    refine x_last (j := 0) rfl R.c27 (mm_idx_nI (i := 0) (by omega) (by omega)) ?_
    refine gen_h (A := Rep u v X o3 M ((z.1, s2 z.2 5 0 (x)))) (R.uOut _) (fun h R => ?_)
    refine x_run 2 (pc' := 26) (lv' := [(0, .ref (X.1 0)), (1, .int (q)), (2, .long (n)), (4, .ref (X.1 27))]) (st' := [.int (0)]) rfl ?_
    exact x_ret (v := some (.int (0))) rfl rfl rfl ⟨rfl, X, R, eX, eT⟩
  · obtain ⟨o1, o2, o3⟩ := o
    replace e : o1 = 7 := e
    subst e
    show Wx _ _ 0 [(0, .ref (X.1 0)), (1, .int (q)), (2, .long (n)), (4, .ref (X.1 27))] [] h _
    refine x_run 5 (pc' := 6) (lv' := [(0, .ref (X.1 0)), (1, .int (q)), (2, .long (n)), (4, .ref (X.1 27))]) (st' := [.long (n), .int (q), .ref (X.1 0), .int (0), .ref (X.1 27)]) rfl ?_
    refine x_ca (x := 7) (pc' := 13) (A := RX u v X M z o3) (k' := 7) (as := [.ref (X.1 0), .int (q), .long (n)]) (rest := [.int (0), .ref (X.1 27)]) (x_isV (np := 2) rfl rfl rfl R0.c0 rfl) rfl wc (fun a h R => ?_)
    refine x_run 2 (pc' := 16) (lv' := [(5, .ref (a)), (0, .ref (X.1 0)), (1, .int (q)), (2, .long (n)), (4, .ref (X.1 27))]) (st' := [.int (1)]) rfl ?_
    exact x_ret (v := some (.int (1))) rfl rfl rfl ⟨rfl, R⟩
  · obtain ⟨o1, o2, o3⟩ := o
    replace e : o1 = 5 := e
    subst e
    show Wx _ _ 0 [(0, .ref (X.1 0)), (1, .int (q)), (2, .long (n)), (4, .ref (X.1 27))] [] h _
    refine x_run 5 (pc' := 6) (lv' := [(0, .ref (X.1 0)), (1, .int (q)), (2, .long (n)), (4, .ref (X.1 27))]) (st' := [.long (n), .int (q), .ref (X.1 0), .int (0), .ref (X.1 27)]) rfl ?_
    refine x_ca (x := 5) (pc' := 17) (A := RX u v X M z o3) (k' := 7) (as := [.ref (X.1 0), .int (q), .long (n)]) (rest := [.int (0), .ref (X.1 27)]) (x_isV (np := 2) rfl rfl rfl R0.c0 rfl) rfl wc (fun a h R => ?_)
    refine x_run 2 (pc' := 20) (lv' := [(5, .ref (a)), (0, .ref (X.1 0)), (1, .int (q)), (2, .long (n)), (4, .ref (X.1 27))]) (st' := [.int (2)]) rfl ?_
    exact x_ret (v := some (.int (2))) rfl rfl rfl ⟨rfl, R⟩
  · obtain ⟨o1, o2, o3⟩ := o
    replace e : o1 = 6 := e
    subst e
    show Wx _ _ 0 [(0, .ref (X.1 0)), (1, .int (q)), (2, .long (n)), (4, .ref (X.1 27))] [] h _
    refine x_run 5 (pc' := 6) (lv' := [(0, .ref (X.1 0)), (1, .int (q)), (2, .long (n)), (4, .ref (X.1 27))]) (st' := [.long (n), .int (q), .ref (X.1 0), .int (0), .ref (X.1 27)]) rfl ?_
    refine x_ca (x := 6) (pc' := 21) (A := RX u v X M z o3) (k' := 7) (as := [.ref (X.1 0), .int (q), .long (n)]) (rest := [.int (0), .ref (X.1 27)]) (x_isV (np := 2) rfl rfl rfl R0.c0 rfl) rfl wc (fun a h R => ?_)
    refine x_run 2 (pc' := 24) (lv' := [(5, .ref (a)), (0, .ref (X.1 0)), (1, .int (q)), (2, .long (n)), (4, .ref (X.1 27))]) (st' := [.int (3)]) rfl ?_
    exact x_ret (v := some (.int (3))) rfl rfl rfl ⟨rfl, R⟩
  · exact absurd rfl ne
theorem h_cost {u0 v0 : Nat} {n : Int64} {o : oO} (R0 : Rep u0 v0 X P M z h) (wc : Wx (d + 7) 8 0 (lv_args 0 [.ref (X.1 0), .long (n)]) [] h (pQ (RX u v X M z) o)) (ho : hoL 5 6 99 99 o) : Wx (d + 8) 102 0 (lv_args 0 [.ref (X.1 0), .long (n), .ref (X.1 27)]) [] h (hQ u v X M (cd 5 6 99 99 o.1) o.2.2 (zo o z)) := by
  rcases ho with ⟨e, x, ex⟩ | ⟨e, ne⟩ | ⟨e, ne⟩ | ⟨e, ne⟩ | ⟨e, ne⟩
  · obtain ⟨o1, o2, o3⟩ := o
    replace e : o1 = 0 := e
    replace ex : o2 = some (.long x) := ex
    subst e ex
    show Wx _ _ 0 [(0, .ref (X.1 0)), (1, .long (n)), (3, .ref (X.1 27))] [] h _
    refine x_run 4 (pc' := 4) (lv' := [(0, .ref (X.1 0)), (1, .long (n)), (3, .ref (X.1 27))]) (st' := [.long (n), .ref (X.1 0), .int (0), .ref (X.1 27)]) rfl ?_
    refine x_wr (v := .long x) (A := RX u v X M z o3) (k' := 8) (as := [.ref (X.1 0), .long (n)]) (rest := [.int (0), .ref (X.1 27)]) (x_isV (np := 1) rfl rfl rfl R0.c0 rfl) wc (fun h R => ?_)
    obtain ⟨X, R, eX, eT⟩ := R
    rw [← eT 0 (by omega), ← eT 27 (by omega)]
    refine x_last (j := 0) rfl R.c27 (mm_idx_nI (i := 0) (by omega) (by omega)) ?_
    refine gen_h (A := Rep u v X o3 M ((z.1, s2 z.2 5 0 (x)))) (R.uOut _) (fun h R => ?_)
    refine x_run 2 (pc' := 20) (lv' := [(0, .ref (X.1 0)), (1, .long (n)), (3, .ref (X.1 27))]) (st' := [.int (0)]) rfl ?_
    exact x_ret (v := some (.int (0))) rfl rfl rfl ⟨rfl, X, R, eX, eT⟩
  · obtain ⟨o1, o2, o3⟩ := o
    replace e : o1 = 5 := e
    subst e
    show Wx _ _ 0 [(0, .ref (X.1 0)), (1, .long (n)), (3, .ref (X.1 27))] [] h _
    refine x_run 4 (pc' := 4) (lv' := [(0, .ref (X.1 0)), (1, .long (n)), (3, .ref (X.1 27))]) (st' := [.long (n), .ref (X.1 0), .int (0), .ref (X.1 27)]) rfl ?_
    refine x_ca (x := 5) (pc' := 11) (A := RX u v X M z o3) (k' := 8) (as := [.ref (X.1 0), .long (n)]) (rest := [.int (0), .ref (X.1 27)]) (x_isV (np := 1) rfl rfl rfl R0.c0 rfl) rfl wc (fun a h R => ?_)
    refine x_run 2 (pc' := 14) (lv' := [(4, .ref (a)), (0, .ref (X.1 0)), (1, .long (n)), (3, .ref (X.1 27))]) (st' := [.int (1)]) rfl ?_
    exact x_ret (v := some (.int (1))) rfl rfl rfl ⟨rfl, R⟩
  · obtain ⟨o1, o2, o3⟩ := o
    replace e : o1 = 6 := e
    subst e
    show Wx _ _ 0 [(0, .ref (X.1 0)), (1, .long (n)), (3, .ref (X.1 27))] [] h _
    refine x_run 4 (pc' := 4) (lv' := [(0, .ref (X.1 0)), (1, .long (n)), (3, .ref (X.1 27))]) (st' := [.long (n), .ref (X.1 0), .int (0), .ref (X.1 27)]) rfl ?_
    refine x_ca (x := 6) (pc' := 15) (A := RX u v X M z o3) (k' := 8) (as := [.ref (X.1 0), .long (n)]) (rest := [.int (0), .ref (X.1 27)]) (x_isV (np := 1) rfl rfl rfl R0.c0 rfl) rfl wc (fun a h R => ?_)
    refine x_run 2 (pc' := 18) (lv' := [(4, .ref (a)), (0, .ref (X.1 0)), (1, .long (n)), (3, .ref (X.1 27))]) (st' := [.int (2)]) rfl ?_
    exact x_ret (v := some (.int (2))) rfl rfl rfl ⟨rfl, R⟩
  · exact absurd rfl ne
  · exact absurd rfl ne
theorem h_div {u0 v0 : Nat} {q : Int32} {c : Int32} {o : oO} (R0 : Rep u0 v0 X P M z h) (wc : Wx (d + 7) 9 0 (lv_args 0 [.ref (X.1 0), .int (q), .int (c)]) [] h (pQ (RX u v X M z) o)) (ho : hoL 5 6 8 99 o) : Wx (d + 8) 103 0 (lv_args 0 [.ref (X.1 0), .int (q), .int (c), .ref (X.1 27)]) [] h (hQ u v X M (cd 5 6 8 99 o.1) o.2.2 (zo o z)) := by
  rcases ho with ⟨e, x, ex⟩ | ⟨e, ne⟩ | ⟨e, ne⟩ | ⟨e, ne⟩ | ⟨e, ne⟩
  · obtain ⟨o1, o2, o3⟩ := o
    replace e : o1 = 0 := e
    replace ex : o2 = some (.long x) := ex
    subst e ex
    show Wx _ _ 0 [(0, .ref (X.1 0)), (1, .int (q)), (2, .int (c)), (3, .ref (X.1 27))] [] h _
    refine x_run 5 (pc' := 5) (lv' := [(0, .ref (X.1 0)), (1, .int (q)), (2, .int (c)), (3, .ref (X.1 27))]) (st' := [.int (c), .int (q), .ref (X.1 0), .int (0), .ref (X.1 27)]) rfl ?_
    refine x_wr (v := .long x) (A := RX u v X M z o3) (k' := 9) (as := [.ref (X.1 0), .int (q), .int (c)]) (rest := [.int (0), .ref (X.1 27)]) (x_isV (np := 2) rfl rfl rfl R0.c0 rfl) wc (fun h R => ?_)
    obtain ⟨X, R, eX, eT⟩ := R
    rw [← eT 0 (by omega), ← eT 27 (by omega)]
    refine x_last (j := 0) rfl R.c27 (mm_idx_nI (i := 0) (by omega) (by omega)) ?_
    refine gen_h (A := Rep u v X o3 M ((z.1, s2 z.2 5 0 (x)))) (R.uOut _) (fun h R => ?_)
    refine x_run 2 (pc' := 25) (lv' := [(0, .ref (X.1 0)), (1, .int (q)), (2, .int (c)), (3, .ref (X.1 27))]) (st' := [.int (0)]) rfl ?_
    exact x_ret (v := some (.int (0))) rfl rfl rfl ⟨rfl, X, R, eX, eT⟩
  · obtain ⟨o1, o2, o3⟩ := o
    replace e : o1 = 5 := e
    subst e
    show Wx _ _ 0 [(0, .ref (X.1 0)), (1, .int (q)), (2, .int (c)), (3, .ref (X.1 27))] [] h _
    refine x_run 5 (pc' := 5) (lv' := [(0, .ref (X.1 0)), (1, .int (q)), (2, .int (c)), (3, .ref (X.1 27))]) (st' := [.int (c), .int (q), .ref (X.1 0), .int (0), .ref (X.1 27)]) rfl ?_
    refine x_ca (x := 5) (pc' := 12) (A := RX u v X M z o3) (k' := 9) (as := [.ref (X.1 0), .int (q), .int (c)]) (rest := [.int (0), .ref (X.1 27)]) (x_isV (np := 2) rfl rfl rfl R0.c0 rfl) rfl wc (fun a h R => ?_)
    refine x_run 2 (pc' := 15) (lv' := [(4, .ref (a)), (0, .ref (X.1 0)), (1, .int (q)), (2, .int (c)), (3, .ref (X.1 27))]) (st' := [.int (1)]) rfl ?_
    exact x_ret (v := some (.int (1))) rfl rfl rfl ⟨rfl, R⟩
  · obtain ⟨o1, o2, o3⟩ := o
    replace e : o1 = 6 := e
    subst e
    show Wx _ _ 0 [(0, .ref (X.1 0)), (1, .int (q)), (2, .int (c)), (3, .ref (X.1 27))] [] h _
    refine x_run 5 (pc' := 5) (lv' := [(0, .ref (X.1 0)), (1, .int (q)), (2, .int (c)), (3, .ref (X.1 27))]) (st' := [.int (c), .int (q), .ref (X.1 0), .int (0), .ref (X.1 27)]) rfl ?_
    refine x_ca (x := 6) (pc' := 16) (A := RX u v X M z o3) (k' := 9) (as := [.ref (X.1 0), .int (q), .int (c)]) (rest := [.int (0), .ref (X.1 27)]) (x_isV (np := 2) rfl rfl rfl R0.c0 rfl) rfl wc (fun a h R => ?_)
    refine x_run 2 (pc' := 19) (lv' := [(4, .ref (a)), (0, .ref (X.1 0)), (1, .int (q)), (2, .int (c)), (3, .ref (X.1 27))]) (st' := [.int (2)]) rfl ?_
    exact x_ret (v := some (.int (2))) rfl rfl rfl ⟨rfl, R⟩
  · obtain ⟨o1, o2, o3⟩ := o
    replace e : o1 = 8 := e
    subst e
    show Wx _ _ 0 [(0, .ref (X.1 0)), (1, .int (q)), (2, .int (c)), (3, .ref (X.1 27))] [] h _
    refine x_run 5 (pc' := 5) (lv' := [(0, .ref (X.1 0)), (1, .int (q)), (2, .int (c)), (3, .ref (X.1 27))]) (st' := [.int (c), .int (q), .ref (X.1 0), .int (0), .ref (X.1 27)]) rfl ?_
    refine x_ca (x := 8) (pc' := 20) (A := RX u v X M z o3) (k' := 9) (as := [.ref (X.1 0), .int (q), .int (c)]) (rest := [.int (0), .ref (X.1 27)]) (x_isV (np := 2) rfl rfl rfl R0.c0 rfl) rfl wc (fun a h R => ?_)
    refine x_run 2 (pc' := 23) (lv' := [(4, .ref (a)), (0, .ref (X.1 0)), (1, .int (q)), (2, .int (c)), (3, .ref (X.1 27))]) (st' := [.int (3)]) rfl ?_
    exact x_ret (v := some (.int (3))) rfl rfl rfl ⟨rfl, R⟩
  · exact absurd rfl ne
theorem h_greatest {u0 v0 : Nat} {q : Int32} {o : oO} (R0 : Rep u0 v0 X P M z h) (wc : Wx (d + 7) 10 0 (lv_args 0 [.ref (X.1 0), .int (q)]) [] h (pQ (RX u v X M z) o)) (ho : hoI 5 99 99 99 o) : Wx (d + 8) 104 0 (lv_args 0 [.ref (X.1 0), .int (q), .ref (X.1 27)]) [] h (hQ u v X M (cd 5 99 99 99 o.1) o.2.2 (zo o z)) := by
  rcases ho with ⟨e, x, ex⟩ | ⟨e, ne⟩ | ⟨e, ne⟩ | ⟨e, ne⟩ | ⟨e, ne⟩
  · obtain ⟨o1, o2, o3⟩ := o
    replace e : o1 = 0 := e
    replace ex : o2 = some (.int x) := ex
    subst e ex
    show Wx _ _ 0 [(0, .ref (X.1 0)), (1, .int (q)), (2, .ref (X.1 27))] [] h _
    refine x_run 4 (pc' := 4) (lv' := [(0, .ref (X.1 0)), (1, .int (q)), (2, .ref (X.1 27))]) (st' := [.int (q), .ref (X.1 0), .int (0), .ref (X.1 27)]) rfl ?_
    refine x_wr (v := .int x) (A := RX u v X M z o3) (k' := 10) (as := [.ref (X.1 0), .int (q)]) (rest := [.int (0), .ref (X.1 27)]) (x_isV (np := 1) rfl rfl rfl R0.c0 rfl) wc (fun h R => ?_)
    obtain ⟨X, R, eX, eT⟩ := R
    rw [← eT 0 (by omega), ← eT 27 (by omega)]
    refine x_run 1 (pc' := 8) (lv' := [(0, .ref (X.1 0)), (1, .int (q)), (2, .ref (X.1 27))]) (st' := [.long ((x).toInt64), .int (0), .ref (X.1 27)]) rfl ?_
    refine x_last (j := 0) rfl R.c27 (mm_idx_nI (i := 0) (by omega) (by omega)) ?_
    refine gen_h (A := Rep u v X o3 M ((z.1, s2 z.2 5 0 ((x).toInt64)))) (R.uOut _) (fun h R => ?_)
    refine x_run 2 (pc' := 16) (lv' := [(0, .ref (X.1 0)), (1, .int (q)), (2, .ref (X.1 27))]) (st' := [.int (0)]) rfl ?_
    exact x_ret (v := some (.int (0))) rfl rfl rfl ⟨rfl, X, R, eX, eT⟩
  · obtain ⟨o1, o2, o3⟩ := o
    replace e : o1 = 5 := e
    subst e
    show Wx _ _ 0 [(0, .ref (X.1 0)), (1, .int (q)), (2, .ref (X.1 27))] [] h _
    refine x_run 4 (pc' := 4) (lv' := [(0, .ref (X.1 0)), (1, .int (q)), (2, .ref (X.1 27))]) (st' := [.int (q), .ref (X.1 0), .int (0), .ref (X.1 27)]) rfl ?_
    refine x_ca (x := 5) (pc' := 12) (A := RX u v X M z o3) (k' := 10) (as := [.ref (X.1 0), .int (q)]) (rest := [.int (0), .ref (X.1 27)]) (x_isV (np := 1) rfl rfl rfl R0.c0 rfl) rfl wc (fun a h R => ?_)
    refine x_run 2 (pc' := 14) (lv' := [(3, .ref (a)), (0, .ref (X.1 0)), (1, .int (q)), (2, .ref (X.1 27))]) (st' := [.int (1)]) rfl ?_
    exact x_ret (v := some (.int (1))) rfl rfl rfl ⟨rfl, R⟩
  · exact absurd rfl ne
  · exact absurd rfl ne
  · exact absurd rfl ne
theorem h_catch {u0 v0 : Nat} {o : oO} (R0 : Rep u0 v0 X P M z h) (wc : Wx (d + 7) 11 0 (lv_args 0 [.ref (X.1 0)]) [] h (pQ (RX u v X M z) o)) (ho : hoL 6 99 99 99 o) : Wx (d + 8) 105 0 (lv_args 0 [.ref (X.1 0), .ref (X.1 27)]) [] h (hQ u v X M (cd 6 99 99 99 o.1) o.2.2 (zo o z)) := by
  rcases ho with ⟨e, x, ex⟩ | ⟨e, ne⟩ | ⟨e, ne⟩ | ⟨e, ne⟩ | ⟨e, ne⟩
  · obtain ⟨o1, o2, o3⟩ := o
    replace e : o1 = 0 := e
    replace ex : o2 = some (.long x) := ex
    subst e ex
    show Wx _ _ 0 [(0, .ref (X.1 0)), (1, .ref (X.1 27))] [] h _
    refine x_run 3 (pc' := 3) (lv' := [(0, .ref (X.1 0)), (1, .ref (X.1 27))]) (st' := [.ref (X.1 0), .int (0), .ref (X.1 27)]) rfl ?_
    refine x_wr (v := .long x) (A := RX u v X M z o3) (k' := 11) (as := [.ref (X.1 0)]) (rest := [.int (0), .ref (X.1 27)]) (x_isV (np := 0) rfl rfl rfl R0.c0 rfl) wc (fun h R => ?_)
    obtain ⟨X, R, eX, eT⟩ := R
    rw [← eT 0 (by omega), ← eT 27 (by omega)]
    refine x_last (j := 0) rfl R.c27 (mm_idx_nI (i := 0) (by omega) (by omega)) ?_
    refine gen_h (A := Rep u v X o3 M ((z.1, s2 z.2 5 0 (x)))) (R.uOut _) (fun h R => ?_)
    refine x_run 2 (pc' := 14) (lv' := [(0, .ref (X.1 0)), (1, .ref (X.1 27))]) (st' := [.int (0)]) rfl ?_
    exact x_ret (v := some (.int (0))) rfl rfl rfl ⟨rfl, X, R, eX, eT⟩
  · obtain ⟨o1, o2, o3⟩ := o
    replace e : o1 = 6 := e
    subst e
    show Wx _ _ 0 [(0, .ref (X.1 0)), (1, .ref (X.1 27))] [] h _
    refine x_run 3 (pc' := 3) (lv' := [(0, .ref (X.1 0)), (1, .ref (X.1 27))]) (st' := [.ref (X.1 0), .int (0), .ref (X.1 27)]) rfl ?_
    refine x_ca (x := 6) (pc' := 10) (A := RX u v X M z o3) (k' := 11) (as := [.ref (X.1 0)]) (rest := [.int (0), .ref (X.1 27)]) (x_isV (np := 0) rfl rfl rfl R0.c0 rfl) rfl wc (fun a h R => ?_)
    refine x_run 2 (pc' := 12) (lv' := [(2, .ref (a)), (0, .ref (X.1 0)), (1, .ref (X.1 27))]) (st' := [.int (1)]) rfl ?_
    exact x_ret (v := some (.int (1))) rfl rfl rfl ⟨rfl, R⟩
  · exact absurd rfl ne
  · exact absurd rfl ne
  · exact absurd rfl ne
theorem h_end {u0 v0 : Nat} {o : oO} (R0 : Rep u0 v0 X P M z h) (wc : Wx (d + 7) 12 0 (lv_args 0 [.ref (X.1 0)]) [] h (pQ (RX u v X M z) o)) (ho : hoL 6 99 99 99 o) : Wx (d + 8) 106 0 (lv_args 0 [.ref (X.1 0), .ref (X.1 27)]) [] h (hQ u v X M (cd 6 99 99 99 o.1) o.2.2 (zo o z)) := by
  rcases ho with ⟨e, x, ex⟩ | ⟨e, ne⟩ | ⟨e, ne⟩ | ⟨e, ne⟩ | ⟨e, ne⟩
  · obtain ⟨o1, o2, o3⟩ := o
    replace e : o1 = 0 := e
    replace ex : o2 = some (.long x) := ex
    subst e ex
    show Wx _ _ 0 [(0, .ref (X.1 0)), (1, .ref (X.1 27))] [] h _
    refine x_run 3 (pc' := 3) (lv' := [(0, .ref (X.1 0)), (1, .ref (X.1 27))]) (st' := [.ref (X.1 0), .int (0), .ref (X.1 27)]) rfl ?_
    refine x_wr (v := .long x) (A := RX u v X M z o3) (k' := 12) (as := [.ref (X.1 0)]) (rest := [.int (0), .ref (X.1 27)]) (x_isV (np := 0) rfl rfl rfl R0.c0 rfl) wc (fun h R => ?_)
    obtain ⟨X, R, eX, eT⟩ := R
    rw [← eT 0 (by omega), ← eT 27 (by omega)]
    refine x_last (j := 0) rfl R.c27 (mm_idx_nI (i := 0) (by omega) (by omega)) ?_
    refine gen_h (A := Rep u v X o3 M ((z.1, s2 z.2 5 0 (x)))) (R.uOut _) (fun h R => ?_)
    refine x_run 2 (pc' := 14) (lv' := [(0, .ref (X.1 0)), (1, .ref (X.1 27))]) (st' := [.int (0)]) rfl ?_
    exact x_ret (v := some (.int (0))) rfl rfl rfl ⟨rfl, X, R, eX, eT⟩
  · obtain ⟨o1, o2, o3⟩ := o
    replace e : o1 = 6 := e
    subst e
    show Wx _ _ 0 [(0, .ref (X.1 0)), (1, .ref (X.1 27))] [] h _
    refine x_run 3 (pc' := 3) (lv' := [(0, .ref (X.1 0)), (1, .ref (X.1 27))]) (st' := [.ref (X.1 0), .int (0), .ref (X.1 27)]) rfl ?_
    refine x_ca (x := 6) (pc' := 10) (A := RX u v X M z o3) (k' := 12) (as := [.ref (X.1 0)]) (rest := [.int (0), .ref (X.1 27)]) (x_isV (np := 0) rfl rfl rfl R0.c0 rfl) rfl wc (fun a h R => ?_)
    refine x_run 2 (pc' := 12) (lv' := [(2, .ref (a)), (0, .ref (X.1 0)), (1, .ref (X.1 27))]) (st' := [.int (1)]) rfl ?_
    exact x_ret (v := some (.int (1))) rfl rfl rfl ⟨rfl, R⟩
  · exact absurd rfl ne
  · exact absurd rfl ne
  · exact absurd rfl ne
theorem h_told {u0 v0 : Nat} {q : Int32} {c : Int32} {o : oO} (R0 : Rep u0 v0 X P M z h) (wc : Wx (d + 7) 13 0 (lv_args 0 [.ref (X.1 0), .int (q), .int (c)]) [] h (pQ (RX u v X M z) o)) (ho : hoL 7 5 99 99 o) : Wx (d + 8) 107 0 (lv_args 0 [.ref (X.1 0), .int (q), .int (c), .ref (X.1 27)]) [] h (hQ u v X M (cd 7 5 99 99 o.1) o.2.2 (zo o z)) := by
  rcases ho with ⟨e, x, ex⟩ | ⟨e, ne⟩ | ⟨e, ne⟩ | ⟨e, ne⟩ | ⟨e, ne⟩
  · obtain ⟨o1, o2, o3⟩ := o
    replace e : o1 = 0 := e
    replace ex : o2 = some (.long x) := ex
    subst e ex
    show Wx _ _ 0 [(0, .ref (X.1 0)), (1, .int (q)), (2, .int (c)), (3, .ref (X.1 27))] [] h _
    refine x_run 5 (pc' := 5) (lv' := [(0, .ref (X.1 0)), (1, .int (q)), (2, .int (c)), (3, .ref (X.1 27))]) (st' := [.int (c), .int (q), .ref (X.1 0), .int (0), .ref (X.1 27)]) rfl ?_
    refine x_wr (v := .long x) (A := RX u v X M z o3) (k' := 13) (as := [.ref (X.1 0), .int (q), .int (c)]) (rest := [.int (0), .ref (X.1 27)]) (x_isV (np := 2) rfl rfl rfl R0.c0 rfl) wc (fun h R => ?_)
    obtain ⟨X, R, eX, eT⟩ := R
    rw [← eT 0 (by omega), ← eT 27 (by omega)]
    refine x_last (j := 0) rfl R.c27 (mm_idx_nI (i := 0) (by omega) (by omega)) ?_
    refine gen_h (A := Rep u v X o3 M ((z.1, s2 z.2 5 0 (x)))) (R.uOut _) (fun h R => ?_)
    refine x_run 2 (pc' := 21) (lv' := [(0, .ref (X.1 0)), (1, .int (q)), (2, .int (c)), (3, .ref (X.1 27))]) (st' := [.int (0)]) rfl ?_
    exact x_ret (v := some (.int (0))) rfl rfl rfl ⟨rfl, X, R, eX, eT⟩
  · obtain ⟨o1, o2, o3⟩ := o
    replace e : o1 = 7 := e
    subst e
    show Wx _ _ 0 [(0, .ref (X.1 0)), (1, .int (q)), (2, .int (c)), (3, .ref (X.1 27))] [] h _
    refine x_run 5 (pc' := 5) (lv' := [(0, .ref (X.1 0)), (1, .int (q)), (2, .int (c)), (3, .ref (X.1 27))]) (st' := [.int (c), .int (q), .ref (X.1 0), .int (0), .ref (X.1 27)]) rfl ?_
    refine x_ca (x := 7) (pc' := 12) (A := RX u v X M z o3) (k' := 13) (as := [.ref (X.1 0), .int (q), .int (c)]) (rest := [.int (0), .ref (X.1 27)]) (x_isV (np := 2) rfl rfl rfl R0.c0 rfl) rfl wc (fun a h R => ?_)
    refine x_run 2 (pc' := 15) (lv' := [(4, .ref (a)), (0, .ref (X.1 0)), (1, .int (q)), (2, .int (c)), (3, .ref (X.1 27))]) (st' := [.int (1)]) rfl ?_
    exact x_ret (v := some (.int (1))) rfl rfl rfl ⟨rfl, R⟩
  · obtain ⟨o1, o2, o3⟩ := o
    replace e : o1 = 5 := e
    subst e
    show Wx _ _ 0 [(0, .ref (X.1 0)), (1, .int (q)), (2, .int (c)), (3, .ref (X.1 27))] [] h _
    refine x_run 5 (pc' := 5) (lv' := [(0, .ref (X.1 0)), (1, .int (q)), (2, .int (c)), (3, .ref (X.1 27))]) (st' := [.int (c), .int (q), .ref (X.1 0), .int (0), .ref (X.1 27)]) rfl ?_
    refine x_ca (x := 5) (pc' := 16) (A := RX u v X M z o3) (k' := 13) (as := [.ref (X.1 0), .int (q), .int (c)]) (rest := [.int (0), .ref (X.1 27)]) (x_isV (np := 2) rfl rfl rfl R0.c0 rfl) rfl wc (fun a h R => ?_)
    refine x_run 2 (pc' := 19) (lv' := [(4, .ref (a)), (0, .ref (X.1 0)), (1, .int (q)), (2, .int (c)), (3, .ref (X.1 27))]) (st' := [.int (2)]) rfl ?_
    exact x_ret (v := some (.int (2))) rfl rfl rfl ⟨rfl, R⟩
  · exact absurd rfl ne
  · exact absurd rfl ne
theorem h_percentage {u0 v0 : Nat} {q : Int32} {o : oO} (R0 : Rep u0 v0 X P M z h) (wc : Wx (d + 7) 14 0 (lv_args 0 [.ref (X.1 0), .int (q)]) [] h (pQ (RX u v X M z) o)) (ho : hoI 5 99 99 99 o) : Wx (d + 8) 108 0 (lv_args 0 [.ref (X.1 0), .int (q), .ref (X.1 27)]) [] h (hQ u v X M (cd 5 99 99 99 o.1) o.2.2 (zo o z)) := by
  rcases ho with ⟨e, x, ex⟩ | ⟨e, ne⟩ | ⟨e, ne⟩ | ⟨e, ne⟩ | ⟨e, ne⟩
  · obtain ⟨o1, o2, o3⟩ := o
    replace e : o1 = 0 := e
    replace ex : o2 = some (.int x) := ex
    subst e ex
    show Wx _ _ 0 [(0, .ref (X.1 0)), (1, .int (q)), (2, .ref (X.1 27))] [] h _
    refine x_run 4 (pc' := 4) (lv' := [(0, .ref (X.1 0)), (1, .int (q)), (2, .ref (X.1 27))]) (st' := [.int (q), .ref (X.1 0), .int (0), .ref (X.1 27)]) rfl ?_
    refine x_wr (v := .int x) (A := RX u v X M z o3) (k' := 14) (as := [.ref (X.1 0), .int (q)]) (rest := [.int (0), .ref (X.1 27)]) (x_isV (np := 1) rfl rfl rfl R0.c0 rfl) wc (fun h R => ?_)
    obtain ⟨X, R, eX, eT⟩ := R
    rw [← eT 0 (by omega), ← eT 27 (by omega)]
    refine x_run 1 (pc' := 8) (lv' := [(0, .ref (X.1 0)), (1, .int (q)), (2, .ref (X.1 27))]) (st' := [.long ((x).toInt64), .int (0), .ref (X.1 27)]) rfl ?_
    refine x_last (j := 0) rfl R.c27 (mm_idx_nI (i := 0) (by omega) (by omega)) ?_
    refine gen_h (A := Rep u v X o3 M ((z.1, s2 z.2 5 0 ((x).toInt64)))) (R.uOut _) (fun h R => ?_)
    refine x_run 2 (pc' := 16) (lv' := [(0, .ref (X.1 0)), (1, .int (q)), (2, .ref (X.1 27))]) (st' := [.int (0)]) rfl ?_
    exact x_ret (v := some (.int (0))) rfl rfl rfl ⟨rfl, X, R, eX, eT⟩
  · obtain ⟨o1, o2, o3⟩ := o
    replace e : o1 = 5 := e
    subst e
    show Wx _ _ 0 [(0, .ref (X.1 0)), (1, .int (q)), (2, .ref (X.1 27))] [] h _
    refine x_run 4 (pc' := 4) (lv' := [(0, .ref (X.1 0)), (1, .int (q)), (2, .ref (X.1 27))]) (st' := [.int (q), .ref (X.1 0), .int (0), .ref (X.1 27)]) rfl ?_
    refine x_ca (x := 5) (pc' := 12) (A := RX u v X M z o3) (k' := 14) (as := [.ref (X.1 0), .int (q)]) (rest := [.int (0), .ref (X.1 27)]) (x_isV (np := 1) rfl rfl rfl R0.c0 rfl) rfl wc (fun a h R => ?_)
    refine x_run 2 (pc' := 14) (lv' := [(3, .ref (a)), (0, .ref (X.1 0)), (1, .int (q)), (2, .ref (X.1 27))]) (st' := [.int (1)]) rfl ?_
    exact x_ret (v := some (.int (1))) rfl rfl rfl ⟨rfl, R⟩
  · exact absurd rfl ne
  · exact absurd rfl ne
  · exact absurd rfl ne
theorem h_entry {u0 v0 : Nat} {q : Int32} {c : Int32} {o : oO} (R0 : Rep u0 v0 X P M z h) (wc : Wx (d + 7) 17 0 (lv_args 0 [.ref (X.1 0), .int (q), .int (c)]) [] h (pQ (RX u v X M z) o)) (ho : hoL 7 5 99 99 o) : Wx (d + 8) 109 0 (lv_args 0 [.ref (X.1 0), .int (q), .int (c), .ref (X.1 27)]) [] h (hQ u v X M (cd 7 5 99 99 o.1) o.2.2 (zo o z)) := by
  rcases ho with ⟨e, x, ex⟩ | ⟨e, ne⟩ | ⟨e, ne⟩ | ⟨e, ne⟩ | ⟨e, ne⟩
  · obtain ⟨o1, o2, o3⟩ := o
    replace e : o1 = 0 := e
    replace ex : o2 = some (.long x) := ex
    subst e ex
    show Wx _ _ 0 [(0, .ref (X.1 0)), (1, .int (q)), (2, .int (c)), (3, .ref (X.1 27))] [] h _
    refine x_run 5 (pc' := 5) (lv' := [(0, .ref (X.1 0)), (1, .int (q)), (2, .int (c)), (3, .ref (X.1 27))]) (st' := [.int (c), .int (q), .ref (X.1 0), .int (0), .ref (X.1 27)]) rfl ?_
    refine x_wr (v := .long x) (A := RX u v X M z o3) (k' := 17) (as := [.ref (X.1 0), .int (q), .int (c)]) (rest := [.int (0), .ref (X.1 27)]) (x_isV (np := 2) rfl rfl rfl R0.c0 rfl) wc (fun h R => ?_)
    obtain ⟨X, R, eX, eT⟩ := R
    rw [← eT 0 (by omega), ← eT 27 (by omega)]
    refine x_last (j := 0) rfl R.c27 (mm_idx_nI (i := 0) (by omega) (by omega)) ?_
    refine gen_h (A := Rep u v X o3 M ((z.1, s2 z.2 5 0 (x)))) (R.uOut _) (fun h R => ?_)
    refine x_run 2 (pc' := 21) (lv' := [(0, .ref (X.1 0)), (1, .int (q)), (2, .int (c)), (3, .ref (X.1 27))]) (st' := [.int (0)]) rfl ?_
    exact x_ret (v := some (.int (0))) rfl rfl rfl ⟨rfl, X, R, eX, eT⟩
  · obtain ⟨o1, o2, o3⟩ := o
    replace e : o1 = 7 := e
    subst e
    show Wx _ _ 0 [(0, .ref (X.1 0)), (1, .int (q)), (2, .int (c)), (3, .ref (X.1 27))] [] h _
    refine x_run 5 (pc' := 5) (lv' := [(0, .ref (X.1 0)), (1, .int (q)), (2, .int (c)), (3, .ref (X.1 27))]) (st' := [.int (c), .int (q), .ref (X.1 0), .int (0), .ref (X.1 27)]) rfl ?_
    refine x_ca (x := 7) (pc' := 12) (A := RX u v X M z o3) (k' := 17) (as := [.ref (X.1 0), .int (q), .int (c)]) (rest := [.int (0), .ref (X.1 27)]) (x_isV (np := 2) rfl rfl rfl R0.c0 rfl) rfl wc (fun a h R => ?_)
    refine x_run 2 (pc' := 15) (lv' := [(4, .ref (a)), (0, .ref (X.1 0)), (1, .int (q)), (2, .int (c)), (3, .ref (X.1 27))]) (st' := [.int (1)]) rfl ?_
    exact x_ret (v := some (.int (1))) rfl rfl rfl ⟨rfl, R⟩
  · obtain ⟨o1, o2, o3⟩ := o
    replace e : o1 = 5 := e
    subst e
    show Wx _ _ 0 [(0, .ref (X.1 0)), (1, .int (q)), (2, .int (c)), (3, .ref (X.1 27))] [] h _
    refine x_run 5 (pc' := 5) (lv' := [(0, .ref (X.1 0)), (1, .int (q)), (2, .int (c)), (3, .ref (X.1 27))]) (st' := [.int (c), .int (q), .ref (X.1 0), .int (0), .ref (X.1 27)]) rfl ?_
    refine x_ca (x := 5) (pc' := 16) (A := RX u v X M z o3) (k' := 17) (as := [.ref (X.1 0), .int (q), .int (c)]) (rest := [.int (0), .ref (X.1 27)]) (x_isV (np := 2) rfl rfl rfl R0.c0 rfl) rfl wc (fun a h R => ?_)
    refine x_run 2 (pc' := 19) (lv' := [(4, .ref (a)), (0, .ref (X.1 0)), (1, .int (q)), (2, .int (c)), (3, .ref (X.1 27))]) (st' := [.int (2)]) rfl ?_
    exact x_ret (v := some (.int (2))) rfl rfl rfl ⟨rfl, R⟩
  · exact absurd rfl ne
  · exact absurd rfl ne
end HELP
