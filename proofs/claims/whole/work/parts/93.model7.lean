section MOD7
variable {u v d : Nat} {X : xX} {P M : pP} {z : zZ} {h : mm_H} {i j : Nat}
/-- the reference's rows: lefts, shares, overs -/
def zm (z : zZ) (L A B : Nat → Int64) : zZ := (z.1, fun g => if g = 0 then L else if g = 1 then A else if g = 2 then B else z.2 g)
theorem zm_L (z : zZ) (L A B : Nat → Int64) (q : Nat) (x : Int64) : ((zm z L A B).1, s2 (zm z L A B).2 0 q x) = zm z (uF L q x) A B := by
  refine Prod.ext rfl ?_
  funext g i
  show s2 (zm z L A B).2 0 q x g i = (zm z (uF L q x) A B).2 g i
  unfold s2 zm uF
  by_cases h3 : g = 0
  · subst h3
    by_cases hi : i = q
    · simp [hi]
    · simp [hi]
  · simp [h3]
theorem zm_A (z : zZ) (L A B : Nat → Int64) (q : Nat) (x : Int64) : ((zm z L A B).1, s2 (zm z L A B).2 1 q x) = zm z L (uF A q x) B := by
  refine Prod.ext rfl ?_
  funext g i
  show s2 (zm z L A B).2 1 q x g i = (zm z L (uF A q x) B).2 g i
  unfold s2 zm uF
  by_cases h3 : g = 1
  · subst h3
    by_cases hi : i = q
    · simp [hi]
    · simp [hi]
  · simp [h3]
theorem zm_B (z : zZ) (L A B : Nat → Int64) (q : Nat) (x : Int64) : ((zm z L A B).1, s2 (zm z L A B).2 2 q x) = zm z L A (uF B q x) := by
  refine Prod.ext rfl ?_
  funext g i
  show s2 (zm z L A B).2 2 q x g i = (zm z L A (uF B q x)).2 g i
  unfold s2 zm uF
  by_cases h3 : g = 2
  · subst h3
    by_cases hi : i = q
    · simp [hi]
    · simp [hi]
  · simp [h3]
theorem zm_self (z : zZ) : zm z (z.2 0) (z.2 1) (z.2 2) = z := by
  refine Prod.ext rfl ?_
  funext g i
  unfold zm
  by_cases h0 : g = 0
  · subst h0; rfl
  · by_cases h1 : g = 1
    · subst h1; rfl
    · by_cases h2 : g = 2
      · subst h2; rfl
      · simp [h0, h1, h2]
def m_gt (B : Nat → Int64) (i : Nat) : Option Nat → Bool
  | none => true
  | some k => !decide (B i ≤ B k)
/-- the greatest over of a rank -/
def m_tk (P : pP) (r : Nat) (B : Nat → Int64) : Nat → Nat → Option Nat → Option Nat
  | 0, _, o => o
  | m + 1, i, o => m_tk P r B m (i + 1) (if pN P 0 i = r ∧ ¬ B i < 0 ∧ m_gt B i o = true then some i else o)
theorem m_tk_lt (P : pP) (r : Nat) (B : Nat → Int64) : ∀ (m i : Nat) (o : Option Nat) (n k : Nat), i + m = n → (∀ k, o = some k → k < n) → m_tk P r B m i o = some k → k < n
  | 0, i, o, n, k, _, ho, h => ho k h
  | m + 1, i, o, n, k, hm, ho, h => by
    unfold m_tk at h
    refine m_tk_lt P r B m (i + 1) _ n k (by omega) (fun k e => ?_) h
    split at e
    · cases e; omega
    · exact ho k e
def m_add (P : pP) (r : Nat) : Nat → (Nat → Int64) → (Nat → Int64) → (Nat → Int64) × (Nat → Int64)
  | 0, A, B => (A, B)
  | m + 1, A, B => match m_tk P r B (pn P) 0 none with
    | none => (A, B)
    | some k => m_add P r m (uF A k (A k + 1)) (uF B k (-1))
/-- there is one to take, m times -/
def m_ok (P : pP) (r : Nat) : Nat → (Nat → Int64) → Prop
  | 0, _ => True
  | m + 1, B => ∃ k, m_tk P r B (pn P) 0 none = some k ∧ m_ok P r m (uF B k (-1))
def m_sh (P : pP) (r : Nat) (all pot : Int64) (L : Nat → Int64) : Nat → Nat → (Nat → Int64) → (Nat → Int64) → Int64 → ((Nat → Int64) × (Nat → Int64)) × Int64
  | 0, _, A, B, l => ((A, B), l)
  | m + 1, i, A, B, l => if pN P 0 i = r then m_sh P r all pot L m (i + 1) (uF A i (pot * L i / all)) (uF B i (pot * L i - pot * L i / all * all)) (l - uF A i (pot * L i / all) i) else m_sh P r all pot L m (i + 1) A B l
def m_payR (A : Nat → Int64) (r : Nat) : Nat → Nat → pP → pP
  | 0, _, P => P
  | m + 1, i, P => m_payR A r m (i + 1) (if pN P 0 i = r then p_pay P i (A i) else P)
def m_left (P : pP) (i : Nat) : Int64 := if p_net P i ≤ pL P 3 i then 0 else p_net P i - pL P 3 i
def m_lf (P : pP) (r : Nat) : Nat → Nat → (Nat → Int64) → Int64 → (Nat → Int64) × Int64
  | 0, _, L, acc => (L, acc)
  | m + 1, i, L, acc => if pN P 0 i = r then m_lf P r m (i + 1) (uF L i (m_left P i)) (acc + uF L i (m_left P i) i) else m_lf P r m (i + 1) L acc
def m_payL (L : Nat → Int64) (r : Nat) : Nat → Nat → pP → pP
  | 0, _, P => P
  | m + 1, i, P => m_payL L r m (i + 1) (p_pay P i (if pN P 0 i = r then L i else 0))
theorem dec1 {l : Int64} {m : Nat} (h : l.toInt = ((m + 1 : Nat) : Int)) : (l - 1).toInt = (m : Int) := by
  have hl := Int64.toInt_lt l
  rw [Int64.toInt_sub, show (1 : Int64).toInt = 1 from by decide, Int.bmod_eq_of_le (by omega) (by omega)]
  omega
theorem k_tkL {L A B : Nat → Int64} (R : Rep u v X P M (zm z L A B) h) {r : Nat} (hr : r < 8) {Q : mm_O × mm_H → Prop} : ∀ (m i : Nat) (o : Option Nat), i + m = pn M → (∀ k, o = some k → k < pn M) → Wx d 87 77 [(2, .int (oI (m_tk M r B m i o))), (0, .ref (X.1 8)), (1, .int (nI r))] [] h Q → Wx d 87 4 [(3, .int (nI i)), (2, .int (oI o)), (0, .ref (X.1 8)), (1, .int (nI r))] [] h Q := by
  intro m
  induction m with
  | zero =>
    intro i o hm ho kk
    have m60 := R.m60
    refine x_run 2 (pc' := 6) (lv' := [(3, .int (nI i)), (2, .int (oI o)), (0, .ref (X.1 8)), (1, .int (nI r))]) (st' := [.ref (X.1 8), .int (nI i)]) rfl ?_
    refine x_get (v := .int (nI (pn M))) rfl rfl R.c8 rfl ?_
    refine x_if (c := nI (pn M) ≤ nI i) (t := 77) rfl rfl (fun c1 => ?_) (fun c1 => ?_)
    · replace c1 := (nI_leI (by omega) (by omega)).mp c1
      refine x_lv (a := [(2, .int (oI o)), (0, .ref (X.1 8)), (1, .int (nI r))]) rfl rfl ⟨rfl, rfl, rfl, trivial⟩ ?_
      exact kk
    · replace c1 := mt (nI_leI (by omega) (by omega)).mpr c1
      omega
  | succ m ih =>
    intro i o hm ho kk
    have m60 := R.m60
    have hi : i < pn M := by omega
    have r8 := R.wM.rk hi
    cases o with
    | none =>
      refine x_run 2 (pc' := 6) (lv' := [(3, .int (nI i)), (2, .int (-1)), (0, .ref (X.1 8)), (1, .int (nI r))]) (st' := [.ref (X.1 8), .int (nI i)]) rfl ?_
      refine x_get (v := .int (nI (pn M))) rfl rfl R.c8 rfl ?_
      refine x_if (c := nI (pn M) ≤ nI i) (t := 77) rfl rfl (fun c1 => ?_) (fun c1 => ?_)
      · replace c1 := (nI_leI (by omega) (by omega)).mp c1
        omega
      · replace c1 := mt (nI_leI (by omega) (by omega)).mpr c1
        refine x_run 1 (pc' := 13) (lv' := [(3, .int (nI i)), (2, .int (-1)), (0, .ref (X.1 8)), (1, .int (nI r))]) (st' := [.ref (X.1 8)]) rfl ?_
        refine x_get (v := .ref (X.1 9)) rfl rfl R.c8 rfl ?_
        refine x_run 1 (pc' := 17) (lv' := [(3, .int (nI i)), (2, .int (-1)), (0, .ref (X.1 8)), (1, .int (nI r))]) (st' := [.int (nI i), .ref (X.1 9)]) rfl ?_
        refine x_iald (j := i) rfl R.c9 (mm_idx_nI (by omega) (by omega)) ?_
        refine x_run 1 (pc' := 19) (lv' := [(3, .int (nI i)), (2, .int (-1)), (0, .ref (X.1 8)), (1, .int (nI r))]) (st' := [.int (nI r), .int (nI (pN M 0 i))]) rfl ?_
        refine x_if (c := ¬ nI (pN M 0 i) = nI r) (t := 57) rfl rfl (fun c2 => ?_) (fun c2 => ?_)
        · replace c2 := mt (nI_eq (by omega) (by omega)).mpr c2
          refine x_run 3 (pc' := 62) (lv' := [(4, .int (0)), (3, .int (nI i)), (2, .int (-1)), (0, .ref (X.1 8)), (1, .int (nI r))]) (st' := [.int (0)]) rfl ?_
          refine x_if (c := nI 0 = nI 0) (t := 69) rfl rfl (fun c3 => ?_) (fun c3 => ?_)
          · replace c3 := (nI_eq (by omega) (by omega)).mp c3
            refine x_run 3 (pc' := 74) (lv' := [(3, .int (nI i + 1)), (2, .int (-1)), (4, .int (0)), (0, .ref (X.1 8)), (1, .int (nI r))]) (st' := []) rfl ?_
            rw [nI_1]
            refine x_run 1 (pc' := 4) (lv' := [(3, .int (nI (i + 1))), (2, .int (-1)), (4, .int (0)), (0, .ref (X.1 8)), (1, .int (nI r))]) (st' := []) rfl ?_
            refine x_lv (a := [(3, .int (nI (i + 1))), (2, .int (-1)), (0, .ref (X.1 8)), (1, .int (nI r))]) rfl rfl ⟨rfl, rfl, rfl, rfl, trivial⟩ ?_
            rw [show m_tk M r B (m + 1) i none = m_tk M r B m (i + 1) none from by rw [m_tk, if_neg (fun e => c2 e.1)]] at kk
            exact ih (i + 1) none (by omega) ho kk
          · replace c3 := mt (nI_eq (by omega) (by omega)).mpr c3
            omega
        · replace c2 := (nI_eq (by omega) (by omega)).mp (Classical.not_not.mp c2)
          refine x_run 1 (pc' := 23) (lv' := [(3, .int (nI i)), (2, .int (-1)), (0, .ref (X.1 8)), (1, .int (nI r))]) (st' := [.ref (X.1 8)]) rfl ?_
          refine x_get (v := .ref (X.1 26)) rfl rfl R.c8 rfl ?_
          refine x_run 1 (pc' := 27) (lv' := [(3, .int (nI i)), (2, .int (-1)), (0, .ref (X.1 8)), (1, .int (nI r))]) (st' := [.int (nI i), .ref (X.1 26)]) rfl ?_
          refine x_lald (j := i) rfl R.c26 (mm_idx_nI (by omega) (by omega)) ?_
          refine x_run 1 (pc' := 29) (lv' := [(3, .int (nI i)), (2, .int (-1)), (0, .ref (X.1 8)), (1, .int (nI r))]) (st' := [.long (0), .long (B i)]) rfl ?_
          refine x_llt (t := 57) rfl rfl rfl (fun c4 => ?_) (fun c4 => ?_)
          · refine x_run 3 (pc' := 62) (lv' := [(4, .int (0)), (3, .int (nI i)), (2, .int (-1)), (0, .ref (X.1 8)), (1, .int (nI r))]) (st' := [.int (0)]) rfl ?_
            refine x_if (c := nI 0 = nI 0) (t := 69) rfl rfl (fun c5 => ?_) (fun c5 => ?_)
            · replace c5 := (nI_eq (by omega) (by omega)).mp c5
              refine x_run 3 (pc' := 74) (lv' := [(3, .int (nI i + 1)), (2, .int (-1)), (4, .int (0)), (0, .ref (X.1 8)), (1, .int (nI r))]) (st' := []) rfl ?_
              rw [nI_1]
              refine x_run 1 (pc' := 4) (lv' := [(3, .int (nI (i + 1))), (2, .int (-1)), (4, .int (0)), (0, .ref (X.1 8)), (1, .int (nI r))]) (st' := []) rfl ?_
              refine x_lv (a := [(3, .int (nI (i + 1))), (2, .int (-1)), (0, .ref (X.1 8)), (1, .int (nI r))]) rfl rfl ⟨rfl, rfl, rfl, rfl, trivial⟩ ?_
              rw [show m_tk M r B (m + 1) i none = m_tk M r B m (i + 1) none from by rw [m_tk, if_neg (fun e => e.2.1 c4)]] at kk
              exact ih (i + 1) none (by omega) ho kk
            · replace c5 := mt (nI_eq (by omega) (by omega)).mpr c5
              omega
          · refine x_run 1 (pc' := 34) (lv' := [(3, .int (nI i)), (2, .int (-1)), (0, .ref (X.1 8)), (1, .int (nI r))]) (st' := [.int (-1)]) rfl ?_
            refine x_if (c := -1 < 0) (t := 53) rfl rfl (fun c6 => ?_) (fun c6 => ?_)
            · refine x_run 4 (pc' := 62) (lv' := [(4, .int (1)), (3, .int (nI i)), (2, .int (-1)), (0, .ref (X.1 8)), (1, .int (nI r))]) (st' := [.int (1)]) rfl ?_
              refine x_if (c := nI 1 = nI 0) (t := 69) rfl rfl (fun c7 => ?_) (fun c7 => ?_)
              · replace c7 := (nI_eq (by omega) (by omega)).mp c7
                omega
              · replace c7 := mt (nI_eq (by omega) (by omega)).mpr c7
                refine x_run 4 (pc' := 74) (lv' := [(3, .int (nI i + 1)), (2, .int (nI i)), (4, .int (1)), (0, .ref (X.1 8)), (1, .int (nI r))]) (st' := []) rfl ?_
                rw [nI_1]
                refine x_run 1 (pc' := 4) (lv' := [(3, .int (nI (i + 1))), (2, .int (nI i)), (4, .int (1)), (0, .ref (X.1 8)), (1, .int (nI r))]) (st' := []) rfl ?_
                refine x_lv (a := [(3, .int (nI (i + 1))), (2, .int (nI i)), (0, .ref (X.1 8)), (1, .int (nI r))]) rfl rfl ⟨rfl, rfl, rfl, rfl, trivial⟩ ?_
                rw [show m_tk M r B (m + 1) i none = m_tk M r B m (i + 1) (some i) from by rw [m_tk, if_pos ⟨c2, c4, rfl⟩]] at kk
                exact ih (i + 1) (some i) (by omega) (fun k e => by cases e; omega) kk
            · exact absurd (show (-1 : Int32) < 0 from by decide) (by assumption)
    | some k =>
      have hk := ho k rfl
      refine x_run 2 (pc' := 6) (lv' := [(3, .int (nI i)), (2, .int (nI k)), (0, .ref (X.1 8)), (1, .int (nI r))]) (st' := [.ref (X.1 8), .int (nI i)]) rfl ?_
      refine x_get (v := .int (nI (pn M))) rfl rfl R.c8 rfl ?_
      refine x_if (c := nI (pn M) ≤ nI i) (t := 77) rfl rfl (fun c1 => ?_) (fun c1 => ?_)
      · replace c1 := (nI_leI (by omega) (by omega)).mp c1
        omega
      · replace c1 := mt (nI_leI (by omega) (by omega)).mpr c1
        refine x_run 1 (pc' := 13) (lv' := [(3, .int (nI i)), (2, .int (nI k)), (0, .ref (X.1 8)), (1, .int (nI r))]) (st' := [.ref (X.1 8)]) rfl ?_
        refine x_get (v := .ref (X.1 9)) rfl rfl R.c8 rfl ?_
        refine x_run 1 (pc' := 17) (lv' := [(3, .int (nI i)), (2, .int (nI k)), (0, .ref (X.1 8)), (1, .int (nI r))]) (st' := [.int (nI i), .ref (X.1 9)]) rfl ?_
        refine x_iald (j := i) rfl R.c9 (mm_idx_nI (by omega) (by omega)) ?_
        refine x_run 1 (pc' := 19) (lv' := [(3, .int (nI i)), (2, .int (nI k)), (0, .ref (X.1 8)), (1, .int (nI r))]) (st' := [.int (nI r), .int (nI (pN M 0 i))]) rfl ?_
        refine x_if (c := ¬ nI (pN M 0 i) = nI r) (t := 57) rfl rfl (fun c2 => ?_) (fun c2 => ?_)
        · replace c2 := mt (nI_eq (by omega) (by omega)).mpr c2
          refine x_run 3 (pc' := 62) (lv' := [(4, .int (0)), (3, .int (nI i)), (2, .int (nI k)), (0, .ref (X.1 8)), (1, .int (nI r))]) (st' := [.int (0)]) rfl ?_
          refine x_if (c := nI 0 = nI 0) (t := 69) rfl rfl (fun c3 => ?_) (fun c3 => ?_)
          · replace c3 := (nI_eq (by omega) (by omega)).mp c3
            refine x_run 3 (pc' := 74) (lv' := [(3, .int (nI i + 1)), (2, .int (nI k)), (4, .int (0)), (0, .ref (X.1 8)), (1, .int (nI r))]) (st' := []) rfl ?_
            rw [nI_1]
            refine x_run 1 (pc' := 4) (lv' := [(3, .int (nI (i + 1))), (2, .int (nI k)), (4, .int (0)), (0, .ref (X.1 8)), (1, .int (nI r))]) (st' := []) rfl ?_
            refine x_lv (a := [(3, .int (nI (i + 1))), (2, .int (nI k)), (0, .ref (X.1 8)), (1, .int (nI r))]) rfl rfl ⟨rfl, rfl, rfl, rfl, trivial⟩ ?_
            rw [show m_tk M r B (m + 1) i (some k) = m_tk M r B m (i + 1) (some k) from by rw [m_tk, if_neg (fun e => c2 e.1)]] at kk
            exact ih (i + 1) (some k) (by omega) ho kk
          · replace c3 := mt (nI_eq (by omega) (by omega)).mpr c3
            omega
        · replace c2 := (nI_eq (by omega) (by omega)).mp (Classical.not_not.mp c2)
          refine x_run 1 (pc' := 23) (lv' := [(3, .int (nI i)), (2, .int (nI k)), (0, .ref (X.1 8)), (1, .int (nI r))]) (st' := [.ref (X.1 8)]) rfl ?_
          refine x_get (v := .ref (X.1 26)) rfl rfl R.c8 rfl ?_
          refine x_run 1 (pc' := 27) (lv' := [(3, .int (nI i)), (2, .int (nI k)), (0, .ref (X.1 8)), (1, .int (nI r))]) (st' := [.int (nI i), .ref (X.1 26)]) rfl ?_
          refine x_lald (j := i) rfl R.c26 (mm_idx_nI (by omega) (by omega)) ?_
          refine x_run 1 (pc' := 29) (lv' := [(3, .int (nI i)), (2, .int (nI k)), (0, .ref (X.1 8)), (1, .int (nI r))]) (st' := [.long (0), .long (B i)]) rfl ?_
          refine x_llt (t := 57) rfl rfl rfl (fun c4 => ?_) (fun c4 => ?_)
          · refine x_run 3 (pc' := 62) (lv' := [(4, .int (0)), (3, .int (nI i)), (2, .int (nI k)), (0, .ref (X.1 8)), (1, .int (nI r))]) (st' := [.int (0)]) rfl ?_
            refine x_if (c := nI 0 = nI 0) (t := 69) rfl rfl (fun c5 => ?_) (fun c5 => ?_)
            · replace c5 := (nI_eq (by omega) (by omega)).mp c5
              refine x_run 3 (pc' := 74) (lv' := [(3, .int (nI i + 1)), (2, .int (nI k)), (4, .int (0)), (0, .ref (X.1 8)), (1, .int (nI r))]) (st' := []) rfl ?_
              rw [nI_1]
              refine x_run 1 (pc' := 4) (lv' := [(3, .int (nI (i + 1))), (2, .int (nI k)), (4, .int (0)), (0, .ref (X.1 8)), (1, .int (nI r))]) (st' := []) rfl ?_
              refine x_lv (a := [(3, .int (nI (i + 1))), (2, .int (nI k)), (0, .ref (X.1 8)), (1, .int (nI r))]) rfl rfl ⟨rfl, rfl, rfl, rfl, trivial⟩ ?_
              rw [show m_tk M r B (m + 1) i (some k) = m_tk M r B m (i + 1) (some k) from by rw [m_tk, if_neg (fun e => e.2.1 c4)]] at kk
              exact ih (i + 1) (some k) (by omega) ho kk
            · replace c5 := mt (nI_eq (by omega) (by omega)).mpr c5
              omega
          · refine x_run 1 (pc' := 34) (lv' := [(3, .int (nI i)), (2, .int (nI k)), (0, .ref (X.1 8)), (1, .int (nI r))]) (st' := [.int (nI k)]) rfl ?_
            refine x_if (c := nI k < nI 0) (t := 53) rfl rfl (fun c6 => ?_) (fun c6 => ?_)
            · replace c6 := (nI_ltI (by omega) (by omega)).mp c6
              omega
            · replace c6 := mt (nI_ltI (by omega) (by omega)).mpr c6
              refine x_run 1 (pc' := 38) (lv' := [(3, .int (nI i)), (2, .int (nI k)), (0, .ref (X.1 8)), (1, .int (nI r))]) (st' := [.ref (X.1 8)]) rfl ?_
              refine x_get (v := .ref (X.1 26)) rfl rfl R.c8 rfl ?_
              refine x_run 1 (pc' := 42) (lv' := [(3, .int (nI i)), (2, .int (nI k)), (0, .ref (X.1 8)), (1, .int (nI r))]) (st' := [.int (nI i), .ref (X.1 26)]) rfl ?_
              refine x_lald (j := i) rfl R.c26 (mm_idx_nI (by omega) (by omega)) ?_
              refine x_run 1 (pc' := 44) (lv' := [(3, .int (nI i)), (2, .int (nI k)), (0, .ref (X.1 8)), (1, .int (nI r))]) (st' := [.ref (X.1 8), .long (B i)]) rfl ?_
              refine x_get (v := .ref (X.1 26)) rfl rfl R.c8 rfl ?_
              refine x_run 1 (pc' := 48) (lv' := [(3, .int (nI i)), (2, .int (nI k)), (0, .ref (X.1 8)), (1, .int (nI r))]) (st' := [.int (nI k), .ref (X.1 26), .long (B i)]) rfl ?_
              refine x_lald (j := k) rfl R.c26 (mm_idx_nI (by omega) (by omega)) ?_
              refine x_lle (t := 57) rfl rfl rfl (fun c7 => ?_) (fun c7 => ?_)
              · refine x_run 3 (pc' := 62) (lv' := [(4, .int (0)), (3, .int (nI i)), (2, .int (nI k)), (0, .ref (X.1 8)), (1, .int (nI r))]) (st' := [.int (0)]) rfl ?_
                refine x_if (c := nI 0 = nI 0) (t := 69) rfl rfl (fun c8 => ?_) (fun c8 => ?_)
                · replace c8 := (nI_eq (by omega) (by omega)).mp c8
                  refine x_run 3 (pc' := 74) (lv' := [(3, .int (nI i + 1)), (2, .int (nI k)), (4, .int (0)), (0, .ref (X.1 8)), (1, .int (nI r))]) (st' := []) rfl ?_
                  rw [nI_1]
                  refine x_run 1 (pc' := 4) (lv' := [(3, .int (nI (i + 1))), (2, .int (nI k)), (4, .int (0)), (0, .ref (X.1 8)), (1, .int (nI r))]) (st' := []) rfl ?_
                  refine x_lv (a := [(3, .int (nI (i + 1))), (2, .int (nI k)), (0, .ref (X.1 8)), (1, .int (nI r))]) rfl rfl ⟨rfl, rfl, rfl, rfl, trivial⟩ ?_
                  rw [show m_tk M r B (m + 1) i (some k) = m_tk M r B m (i + 1) (some k) from by rw [m_tk, if_neg (fun e => absurd e.2.2 (by simp [m_gt, show B i ≤ B k from c7]))]] at kk
                  exact ih (i + 1) (some k) (by omega) ho kk
                · replace c8 := mt (nI_eq (by omega) (by omega)).mpr c8
                  omega
              · refine x_run 4 (pc' := 62) (lv' := [(4, .int (1)), (3, .int (nI i)), (2, .int (nI k)), (0, .ref (X.1 8)), (1, .int (nI r))]) (st' := [.int (1)]) rfl ?_
                refine x_if (c := nI 1 = nI 0) (t := 69) rfl rfl (fun c9 => ?_) (fun c9 => ?_)
                · replace c9 := (nI_eq (by omega) (by omega)).mp c9
                  omega
                · replace c9 := mt (nI_eq (by omega) (by omega)).mpr c9
                  refine x_run 4 (pc' := 74) (lv' := [(3, .int (nI i + 1)), (2, .int (nI i)), (4, .int (1)), (0, .ref (X.1 8)), (1, .int (nI r))]) (st' := []) rfl ?_
                  rw [nI_1]
                  refine x_run 1 (pc' := 4) (lv' := [(3, .int (nI (i + 1))), (2, .int (nI i)), (4, .int (1)), (0, .ref (X.1 8)), (1, .int (nI r))]) (st' := []) rfl ?_
                  refine x_lv (a := [(3, .int (nI (i + 1))), (2, .int (nI i)), (0, .ref (X.1 8)), (1, .int (nI r))]) rfl rfl ⟨rfl, rfl, rfl, rfl, trivial⟩ ?_
                  rw [show m_tk M r B (m + 1) i (some k) = m_tk M r B m (i + 1) (some i) from by rw [m_tk, if_pos ⟨c2, c4, by simp [m_gt, show ¬ B i ≤ B k from c7]⟩]] at kk
                  exact ih (i + 1) (some i) (by omega) (fun k e => by cases e; omega) kk
theorem k_tk {L A B : Nat → Int64} (R : Rep u v X P M (zm z L A B) h) {r k : Nat} (hr : r < 8) (hk : m_tk M r B (pn M) 0 none = some k) : Wx (d) 87 0 (lv_args 0 [.ref (X.1 8), .int (nI r)]) [] h (fun r0 => r0.1 = .inl (some (.int (nI k))) ∧ Rep u v X P M (zm z L A (uF B k (-1))) r0.2) := by
  have m60 := R.m60
  have k60 := m_tk_lt M r B (pn M) 0 none (pn M) k (by omega) (fun k e => by cases e) hk
  show Wx _ _ 0 [(0, .ref (X.1 8)), (1, .int (nI r))] [] h _
  refine x_run 4 (pc' := 4) (lv' := [(3, .int (0)), (2, .int (-1)), (0, .ref (X.1 8)), (1, .int (nI r))]) (st' := []) rfl ?_
  refine x_lv (a := [(3, .int (0)), (2, .int (oI none)), (0, .ref (X.1 8)), (1, .int (nI r))]) rfl rfl ⟨rfl, rfl, rfl, rfl, trivial⟩ ?_
  refine k_tkL R hr (pn M) 0 none (by omega) (fun k e => by cases e) ?_
  rw [hk]
  refine x_run 1 (pc' := 78) (lv' := [(2, .int (nI k)), (0, .ref (X.1 8)), (1, .int (nI r))]) (st' := [.ref (X.1 8)]) rfl ?_
  refine x_get (v := .ref (X.1 26)) rfl rfl R.c8 rfl ?_
  refine x_run 1 (pc' := 82) (lv' := [(2, .int (nI k)), (0, .ref (X.1 8)), (1, .int (nI r))]) (st' := [.int (nI k), .ref (X.1 26)]) rfl ?_
  refine x_ldc2 (x := -1) rfl rfl ?_
  refine x_last (j := k) rfl R.c26 (mm_idx_nI (by omega) (by omega)) ?_
  refine gen_h (A := Rep u v X P M (((zm z L A B).1, s2 (zm z L A B).2 2 k (-1)))) (R.mOver _) (fun h R => ?_)
  rw [zm_B] at R
  refine x_run 1 (pc' := 87) (lv' := [(2, .int (nI k)), (0, .ref (X.1 8)), (1, .int (nI r))]) (st' := [.int (nI k)]) rfl ?_
  exact x_ret (v := some (.int (nI k))) rfl rfl rfl ⟨rfl, R⟩
theorem k_sh {L : Nat → Int64} {r : Nat} (hr : r < 8) {all pot : Int64} (hall : ¬ all = 0) {Q : mm_O × mm_H → Prop} : ∀ (m i : Nat) (l : Int64) (A B : Nat → Int64) (h : mm_H), Rep u v X P M (zm z L A B) h → i + m = pn M → (∀ h, Rep u v X P M (zm z L (m_sh M r all pot L m i A B l).1.1 (m_sh M r all pot L m i A B l).1.2) h → Wx (d + 2) 88 89 [(6, .long (m_sh M r all pot L m i A B l).2), (0, .ref (X.1 8)), (1, .int (nI r))] [] h Q) → Wx (d + 2) 88 13 [(8, .int (nI i)), (6, .long (l)), (4, .long (pot)), (0, .ref (X.1 8)), (1, .int (nI r)), (2, .long (all))] [] h Q := by
  intro m
  induction m with
  | zero =>
    intro i l A B h R hm kk
    have m60 := R.m60
    refine x_run 2 (pc' := 16) (lv' := [(8, .int (nI i)), (6, .long (l)), (4, .long (pot)), (0, .ref (X.1 8)), (1, .int (nI r)), (2, .long (all))]) (st' := [.ref (X.1 8), .int (nI i)]) rfl ?_
    refine x_get (v := .int (nI (pn M))) rfl rfl R.c8 rfl ?_
    refine x_if (c := nI (pn M) ≤ nI i) (t := 89) rfl rfl (fun c1 => ?_) (fun c1 => ?_)
    · replace c1 := (nI_leI (by omega) (by omega)).mp c1
      refine x_lv (a := [(6, .long (l)), (0, .ref (X.1 8)), (1, .int (nI r))]) rfl rfl ⟨rfl, rfl, rfl, trivial⟩ ?_
      exact kk h R
    · replace c1 := mt (nI_leI (by omega) (by omega)).mpr c1
      omega
  | succ m ih =>
    intro i l A B h R hm kk
    have m60 := R.m60
    have hi : i < pn M := by omega
    have r8 := R.wM.rk hi
    refine x_run 2 (pc' := 16) (lv' := [(8, .int (nI i)), (6, .long (l)), (4, .long (pot)), (0, .ref (X.1 8)), (1, .int (nI r)), (2, .long (all))]) (st' := [.ref (X.1 8), .int (nI i)]) rfl ?_
    refine x_get (v := .int (nI (pn M))) rfl rfl R.c8 rfl ?_
    refine x_if (c := nI (pn M) ≤ nI i) (t := 89) rfl rfl (fun c1 => ?_) (fun c1 => ?_)
    · replace c1 := (nI_leI (by omega) (by omega)).mp c1
      omega
    · replace c1 := mt (nI_leI (by omega) (by omega)).mpr c1
      refine x_run 1 (pc' := 23) (lv' := [(8, .int (nI i)), (6, .long (l)), (4, .long (pot)), (0, .ref (X.1 8)), (1, .int (nI r)), (2, .long (all))]) (st' := [.ref (X.1 8)]) rfl ?_
      refine x_get (v := .ref (X.1 9)) rfl rfl R.c8 rfl ?_
      refine x_run 1 (pc' := 28) (lv' := [(8, .int (nI i)), (6, .long (l)), (4, .long (pot)), (0, .ref (X.1 8)), (1, .int (nI r)), (2, .long (all))]) (st' := [.int (nI i), .ref (X.1 9)]) rfl ?_
      refine x_iald (j := i) rfl R.c9 (mm_idx_nI (by omega) (by omega)) ?_
      refine x_run 1 (pc' := 30) (lv' := [(8, .int (nI i)), (6, .long (l)), (4, .long (pot)), (0, .ref (X.1 8)), (1, .int (nI r)), (2, .long (all))]) (st' := [.int (nI r), .int (nI (pN M 0 i))]) rfl ?_
      refine x_if (c := ¬ nI (pN M 0 i) = nI r) (t := 83) rfl rfl (fun c2 => ?_) (fun c2 => ?_)
      · replace c2 := mt (nI_eq (by omega) (by omega)).mpr c2
        refine x_run 1 (pc' := 86) (lv' := [(8, .int (nI i + 1)), (6, .long (l)), (4, .long (pot)), (0, .ref (X.1 8)), (1, .int (nI r)), (2, .long (all))]) (st' := []) rfl ?_
        rw [nI_1]
        refine x_run 1 (pc' := 13) (lv' := [(8, .int (nI (i + 1))), (6, .long (l)), (4, .long (pot)), (0, .ref (X.1 8)), (1, .int (nI r)), (2, .long (all))]) (st' := []) rfl ?_
        refine x_lv (a := [(8, .int (nI (i + 1))), (6, .long (l)), (4, .long (pot)), (0, .ref (X.1 8)), (1, .int (nI r)), (2, .long (all))]) rfl rfl ⟨rfl, rfl, rfl, rfl, rfl, rfl, trivial⟩ ?_
        rw [show m_sh M r all pot L (m + 1) i A B l = m_sh M r all pot L m (i + 1) A B l from by rw [m_sh, if_neg (by omega)]] at kk
        exact ih (i + 1) _ _ _ _ R (by omega) kk
      · replace c2 := (nI_eq (by omega) (by omega)).mp (Classical.not_not.mp c2)
        refine x_run 1 (pc' := 34) (lv' := [(8, .int (nI i)), (6, .long (l)), (4, .long (pot)), (0, .ref (X.1 8)), (1, .int (nI r)), (2, .long (all))]) (st' := [.ref (X.1 8)]) rfl ?_
        refine x_get (v := .ref (X.1 25)) rfl rfl R.c8 rfl ?_
        refine x_run 3 (pc' := 42) (lv' := [(8, .int (nI i)), (6, .long (l)), (4, .long (pot)), (0, .ref (X.1 8)), (1, .int (nI r)), (2, .long (all))]) (st' := [.ref (X.1 8), .long (pot), .int (nI i), .ref (X.1 25)]) rfl ?_
        refine x_get (v := .ref (X.1 24)) rfl rfl R.c8 rfl ?_
        refine x_run 1 (pc' := 47) (lv' := [(8, .int (nI i)), (6, .long (l)), (4, .long (pot)), (0, .ref (X.1 8)), (1, .int (nI r)), (2, .long (all))]) (st' := [.int (nI i), .ref (X.1 24), .long (pot), .int (nI i), .ref (X.1 25)]) rfl ?_
        refine x_lald (j := i) rfl R.c24 (mm_idx_nI (by omega) (by omega)) ?_
        refine x_run 2 (pc' := 50) (lv' := [(8, .int (nI i)), (6, .long (l)), (4, .long (pot)), (0, .ref (X.1 8)), (1, .int (nI r)), (2, .long (all))]) (st' := [.long (all), .long (pot * (L i)), .int (nI i), .ref (X.1 25)]) rfl ?_
        refine x_ldiv rfl (by first | assumption | exact nz_of (by assumption)) ?_
        refine x_last (j := i) rfl R.c25 (mm_idx_nI (by omega) (by omega)) ?_
        refine gen_h (A := Rep u v X P M (((zm z L A B).1, s2 (zm z L A B).2 1 i ((pot * (L i)) / all)))) (R.mShare _) (fun h R => ?_)
        rw [zm_A] at R
        refine x_run 1 (pc' := 53) (lv' := [(8, .int (nI i)), (6, .long (l)), (4, .long (pot)), (0, .ref (X.1 8)), (1, .int (nI r)), (2, .long (all))]) (st' := [.ref (X.1 8)]) rfl ?_
        refine x_get (v := .ref (X.1 26)) rfl rfl R.c8 rfl ?_
        refine x_run 3 (pc' := 61) (lv' := [(8, .int (nI i)), (6, .long (l)), (4, .long (pot)), (0, .ref (X.1 8)), (1, .int (nI r)), (2, .long (all))]) (st' := [.ref (X.1 8), .long (pot), .int (nI i), .ref (X.1 26)]) rfl ?_
        refine x_get (v := .ref (X.1 24)) rfl rfl R.c8 rfl ?_
        refine x_run 1 (pc' := 66) (lv' := [(8, .int (nI i)), (6, .long (l)), (4, .long (pot)), (0, .ref (X.1 8)), (1, .int (nI r)), (2, .long (all))]) (st' := [.int (nI i), .ref (X.1 24), .long (pot), .int (nI i), .ref (X.1 26)]) rfl ?_
        refine x_lald (j := i) rfl R.c24 (mm_idx_nI (by omega) (by omega)) ?_
        refine x_run 2 (pc' := 69) (lv' := [(8, .int (nI i)), (6, .long (l)), (4, .long (pot)), (0, .ref (X.1 8)), (1, .int (nI r)), (2, .long (all))]) (st' := [.long (all), .long (pot * (L i)), .int (nI i), .ref (X.1 26)]) rfl ?_
        refine x_lrem rfl (by first | assumption | exact nz_of (by assumption)) ?_
        refine x_last (j := i) rfl R.c26 (mm_idx_nI (by omega) (by omega)) ?_
        refine gen_h (A := Rep u v X P M (((zm z L (uF A i ((pot * (L i)) / all)) B).1, s2 (zm z L (uF A i ((pot * (L i)) / all)) B).2 2 i ((pot * (L i)) - (pot * (L i)) / all * all)))) (R.mOver _) (fun h R => ?_)
        rw [zm_B] at R
        refine x_run 2 (pc' := 74) (lv' := [(8, .int (nI i)), (6, .long (l)), (4, .long (pot)), (0, .ref (X.1 8)), (1, .int (nI r)), (2, .long (all))]) (st' := [.ref (X.1 8), .long (l)]) rfl ?_
        refine x_get (v := .ref (X.1 25)) rfl rfl R.c8 rfl ?_
        refine x_run 1 (pc' := 79) (lv' := [(8, .int (nI i)), (6, .long (l)), (4, .long (pot)), (0, .ref (X.1 8)), (1, .int (nI r)), (2, .long (all))]) (st' := [.int (nI i), .ref (X.1 25), .long (l)]) rfl ?_
        refine x_lald (j := i) rfl R.c25 (mm_idx_nI (by omega) (by omega)) ?_
        refine x_run 3 (pc' := 86) (lv' := [(8, .int (nI i + 1)), (6, .long (l - ((uF A i ((pot * (L i)) / all)) i))), (4, .long (pot)), (0, .ref (X.1 8)), (1, .int (nI r)), (2, .long (all))]) (st' := []) rfl ?_
        rw [nI_1]
        refine x_run 1 (pc' := 13) (lv' := [(8, .int (nI (i + 1))), (6, .long (l - ((uF A i ((pot * (L i)) / all)) i))), (4, .long (pot)), (0, .ref (X.1 8)), (1, .int (nI r)), (2, .long (all))]) (st' := []) rfl ?_
        refine x_lv (a := [(8, .int (nI (i + 1))), (6, .long (l - ((uF A i ((pot * (L i)) / all)) i))), (4, .long (pot)), (0, .ref (X.1 8)), (1, .int (nI r)), (2, .long (all))]) rfl rfl ⟨rfl, rfl, rfl, rfl, rfl, rfl, trivial⟩ ?_
        rw [show m_sh M r all pot L (m + 1) i A B l = m_sh M r all pot L m (i + 1) (uF A i ((pot * (L i)) / all)) (uF B i ((pot * (L i)) - (pot * (L i)) / all * all)) (l - ((uF A i ((pot * (L i)) / all)) i)) from by rw [m_sh, if_pos (by omega)]] at kk
        exact ih (i + 1) _ _ _ _ R (by omega) kk
theorem k_addL {L : Nat → Int64} {r : Nat} (hr : r < 8) {Q : mm_O × mm_H → Prop} : ∀ (m : Nat) (l : Int64) (A B : Nat → Int64) (h : mm_H), Rep u v X P M (zm z L A B) h → l.toInt = (m : Int) → m_ok M r m B → (∀ h, Rep u v X P M (zm z L (m_add M r m A B).1 (m_add M r m A B).2) h → Wx (d + 2) 88 119 [(0, .ref (X.1 8)), (1, .int (nI r))] [] h Q) → Wx (d + 2) 88 89 [(6, .long (l)), (0, .ref (X.1 8)), (1, .int (nI r))] [] h Q := by
  intro m
  induction m with
  | zero =>
    intro l A B h R hl ok kk
    have m60 := R.m60
    refine x_run 2 (pc' := 92) (lv' := [(6, .long (l)), (0, .ref (X.1 8)), (1, .int (nI r))]) (st' := [.long (0), .long (l)]) rfl ?_
    refine x_lle (t := 119) rfl rfl rfl (fun c1 => ?_) (fun c1 => ?_)
    · refine x_lv (a := [(0, .ref (X.1 8)), (1, .int (nI r))]) rfl rfl ⟨rfl, rfl, trivial⟩ ?_
      exact kk h R
    · exact absurd (Int64.le_iff_toInt_le.mpr (by rw [hl]; decide)) c1
  | succ m ih =>
    intro l A B h R hl ok kk
    have m60 := R.m60
    obtain ⟨k, hk, ok⟩ := ok
    have k60 := m_tk_lt M r B (pn M) 0 none (pn M) k (by omega) (fun k e => by cases e) hk
    refine x_run 2 (pc' := 92) (lv' := [(6, .long (l)), (0, .ref (X.1 8)), (1, .int (nI r))]) (st' := [.long (0), .long (l)]) rfl ?_
    refine x_lle (t := 119) rfl rfl rfl (fun c1 => ?_) (fun c1 => ?_)
    · exact absurd (Int64.le_iff_toInt_le.mp c1) (by rw [hl, show (0 : Int64).toInt = 0 from by decide]; omega)
    · refine x_run 1 (pc' := 97) (lv' := [(6, .long (l)), (0, .ref (X.1 8)), (1, .int (nI r))]) (st' := [.ref (X.1 8)]) rfl ?_
      refine x_get (v := .ref (X.1 25)) rfl rfl R.c8 rfl ?_
      refine x_run 2 (pc' := 102) (lv' := [(6, .long (l)), (0, .ref (X.1 8)), (1, .int (nI r))]) (st' := [.int (nI r), .ref (X.1 8), .ref (X.1 25)]) rfl ?_
      refine x_wr (v := .int (nI k)) (A := Rep u v X P M (zm z L A (uF B k (-1)))) (k' := 87) (as := [.ref (X.1 8), .int (nI r)]) (rest := [.ref (X.1 25)]) (x_isV (np := 1) rfl rfl rfl R.c8 rfl) (k_tk R hr hk) (fun h R => ?_)
      refine x_run 1 (pc' := 106) (lv' := [(6, .long (l)), (0, .ref (X.1 8)), (1, .int (nI r))]) (st' := [.int (nI k), .ref (X.1 25), .int (nI k), .ref (X.1 25)]) rfl ?_
      refine x_lald (j := k) rfl R.c25 (mm_idx_nI (by omega) (by omega)) ?_
      refine x_run 2 (pc' := 109) (lv' := [(6, .long (l)), (0, .ref (X.1 8)), (1, .int (nI r))]) (st' := [.long ((A k) + 1), .int (nI k), .ref (X.1 25)]) rfl ?_
      refine x_last (j := k) rfl R.c25 (mm_idx_nI (by omega) (by omega)) ?_
      refine gen_h (A := Rep u v X P M (((zm z L A (uF B k (-1))).1, s2 (zm z L A (uF B k (-1))).2 1 k ((A k) + 1)))) (R.mShare _) (fun h R => ?_)
      rw [zm_A] at R
      refine x_run 5 (pc' := 89) (lv' := [(6, .long (l - 1)), (0, .ref (X.1 8)), (1, .int (nI r))]) (st' := []) rfl ?_
      refine x_lv (a := [(6, .long (l - 1)), (0, .ref (X.1 8)), (1, .int (nI r))]) rfl rfl ⟨rfl, rfl, rfl, trivial⟩ ?_
      rw [show m_add M r (m + 1) A B = m_add M r m (uF A k (A k + 1)) (uF B k (-1)) from by rw [m_add, hk]] at kk
      exact ih _ _ _ _ R (dec1 hl) ok kk
theorem k_payR {L A B : Nat → Int64} {r : Nat} (hr : r < 8) {Q : mm_O × mm_H → Prop} : ∀ (m i : Nat) (M : pP) (h : mm_H), Rep u (v + m) X P M (zm z L A B) h → i + m = pn M → (∀ h, Rep u v X P (m_payR A r m i M) (zm z L A B) h → Wx (d + 2) 88 161 [(0, .ref (X.1 8))] [] h Q) → Wx (d + 2) 88 122 [(8, .int (nI i)), (0, .ref (X.1 8)), (1, .int (nI r))] [] h Q := by
  intro m
  induction m with
  | zero =>
    intro i M h R hm kk
    have m60 := R.m60
    refine x_run 2 (pc' := 125) (lv' := [(8, .int (nI i)), (0, .ref (X.1 8)), (1, .int (nI r))]) (st' := [.ref (X.1 8), .int (nI i)]) rfl ?_
    refine x_get (v := .int (nI (pn M))) rfl rfl R.c8 rfl ?_
    refine x_if (c := nI (pn M) ≤ nI i) (t := 161) rfl rfl (fun c1 => ?_) (fun c1 => ?_)
    · replace c1 := (nI_leI (by omega) (by omega)).mp c1
      refine x_lv (a := [(0, .ref (X.1 8))]) rfl rfl ⟨rfl, trivial⟩ ?_
      exact kk h R
    · replace c1 := mt (nI_leI (by omega) (by omega)).mpr c1
      omega
  | succ m ih =>
    intro i M h R hm kk
    have R : Rep u (v + m + 1) X P M (zm z L A B) h := R
    have m60 := R.m60
    have hi : i < pn M := by omega
    have r8 := R.wM.rk hi
    refine x_run 2 (pc' := 125) (lv' := [(8, .int (nI i)), (0, .ref (X.1 8)), (1, .int (nI r))]) (st' := [.ref (X.1 8), .int (nI i)]) rfl ?_
    refine x_get (v := .int (nI (pn M))) rfl rfl R.c8 rfl ?_
    refine x_if (c := nI (pn M) ≤ nI i) (t := 161) rfl rfl (fun c1 => ?_) (fun c1 => ?_)
    · replace c1 := (nI_leI (by omega) (by omega)).mp c1
      omega
    · replace c1 := mt (nI_leI (by omega) (by omega)).mpr c1
      refine x_run 1 (pc' := 132) (lv' := [(8, .int (nI i)), (0, .ref (X.1 8)), (1, .int (nI r))]) (st' := [.ref (X.1 8)]) rfl ?_
      refine x_get (v := .ref (X.1 9)) rfl rfl R.c8 rfl ?_
      refine x_run 1 (pc' := 137) (lv' := [(8, .int (nI i)), (0, .ref (X.1 8)), (1, .int (nI r))]) (st' := [.int (nI i), .ref (X.1 9)]) rfl ?_
      refine x_iald (j := i) rfl R.c9 (mm_idx_nI (by omega) (by omega)) ?_
      refine x_run 1 (pc' := 139) (lv' := [(8, .int (nI i)), (0, .ref (X.1 8)), (1, .int (nI r))]) (st' := [.int (nI r), .int (nI (pN M 0 i))]) rfl ?_
      refine x_if (c := ¬ nI (pN M 0 i) = nI r) (t := 155) rfl rfl (fun c2 => ?_) (fun c2 => ?_)
      · replace c2 := mt (nI_eq (by omega) (by omega)).mpr c2
        refine x_run 1 (pc' := 158) (lv' := [(8, .int (nI i + 1)), (0, .ref (X.1 8)), (1, .int (nI r))]) (st' := []) rfl ?_
        rw [nI_1]
        refine x_run 1 (pc' := 122) (lv' := [(8, .int (nI (i + 1))), (0, .ref (X.1 8)), (1, .int (nI r))]) (st' := []) rfl ?_
        refine x_lv (a := [(8, .int (nI (i + 1))), (0, .ref (X.1 8)), (1, .int (nI r))]) rfl rfl ⟨rfl, rfl, rfl, trivial⟩ ?_
        rw [show m_payR A r (m + 1) i M = m_payR A r m (i + 1) M from by rw [m_payR, if_neg (by omega)]] at kk
        exact ih (i + 1) _ _ (R.less (Nat.le_refl _) (Nat.le_succ _)) (by show _ = pn M; omega) kk
      · replace c2 := (nI_eq (by omega) (by omega)).mp (Classical.not_not.mp c2)
        refine x_run 3 (pc' := 146) (lv' := [(8, .int (nI i)), (0, .ref (X.1 8)), (1, .int (nI r))]) (st' := [.ref (X.1 8), .int (nI i), .ref (X.1 8)]) rfl ?_
        refine x_get (v := .ref (X.1 25)) rfl rfl R.c8 rfl ?_
        refine x_run 1 (pc' := 151) (lv' := [(8, .int (nI i)), (0, .ref (X.1 8)), (1, .int (nI r))]) (st' := [.int (nI i), .ref (X.1 25), .int (nI i), .ref (X.1 8)]) rfl ?_
        refine x_lald (j := i) rfl R.c25 (mm_idx_nI (by omega) (by omega)) ?_
        refine x_wr0 (A := Rep u (v + m) X P (p_pay M i (A i)) (zm z L A B)) (k' := 86) (as := [.ref (X.1 8), .int (nI i), .long (A i)]) (rest := []) (x_isV (np := 2) rfl rfl rfl R.c8 rfl) (k_pay R hi _) (fun h R => ?_)
        refine x_run 1 (pc' := 158) (lv' := [(8, .int (nI i + 1)), (0, .ref (X.1 8)), (1, .int (nI r))]) (st' := []) rfl ?_
        rw [nI_1]
        refine x_run 1 (pc' := 122) (lv' := [(8, .int (nI (i + 1))), (0, .ref (X.1 8)), (1, .int (nI r))]) (st' := []) rfl ?_
        refine x_lv (a := [(8, .int (nI (i + 1))), (0, .ref (X.1 8)), (1, .int (nI r))]) rfl rfl ⟨rfl, rfl, rfl, trivial⟩ ?_
        rw [show m_payR A r (m + 1) i M = m_payR A r m (i + 1) (p_pay M i (A i)) from by rw [m_payR, if_pos (by omega)]] at kk
        exact ih (i + 1) _ _ R (by show _ = pn M; omega) kk
theorem k_share {L A B : Nat → Int64} (R : Rep u (v + 60) X P M (zm z L A B) h) {r k : Nat} (hr : r < 8) {all : Int64} (hall : ¬ all = 0) (hl : (m_sh M r all (pL M 7 0) L (pn M) 0 A B (pL M 7 0)).2.toInt = (k : Int)) (ok : m_ok M r k (m_sh M r all (pL M 7 0) L (pn M) 0 A B (pL M 7 0)).1.2) : Wx (d + 2) 88 0 (lv_args 0 [.ref (X.1 8), .int (nI r), .long (all)]) [] h (fun r0 => r0.1 = .inl none ∧ ∃ A2 B2 : Nat → Int64, Rep u v X P (m_payR (m_add M r k (m_sh M r all (pL M 7 0) L (pn M) 0 A B (pL M 7 0)).1.1 (m_sh M r all (pL M 7 0) L (pn M) 0 A B (pL M 7 0)).1.2).1 r (pn M) 0 M) (zm z L A2 B2) r0.2) := by
  have m60 := R.m60
  show Wx _ _ 0 [(0, .ref (X.1 8)), (1, .int (nI r)), (2, .long (all))] [] h _
  refine x_run 1 (pc' := 1) (lv' := [(0, .ref (X.1 8)), (1, .int (nI r)), (2, .long (all))]) (st' := [.ref (X.1 8)]) rfl ?_
  refine x_get (v := .long (pL M 7 0)) rfl rfl R.c8 rfl ?_
  refine x_run 5 (pc' := 13) (lv' := [(8, .int (0)), (6, .long (pL M 7 0)), (4, .long (pL M 7 0)), (0, .ref (X.1 8)), (1, .int (nI r)), (2, .long (all))]) (st' := []) rfl ?_
  refine x_lv (a := [(8, .int (0)), (6, .long (pL M 7 0)), (4, .long (pL M 7 0)), (0, .ref (X.1 8)), (1, .int (nI r)), (2, .long (all))]) rfl rfl ⟨rfl, rfl, rfl, rfl, rfl, rfl, trivial⟩ ?_
  refine k_sh hr hall (pn M) 0 _ _ _ h R (by omega) (fun h R => ?_)
  refine k_addL hr k _ _ _ h R hl ok (fun h R => ?_)
  refine x_run 2 (pc' := 122) (lv' := [(8, .int (0)), (0, .ref (X.1 8)), (1, .int (nI r))]) (st' := []) rfl ?_
  refine x_lv (a := [(8, .int (0)), (0, .ref (X.1 8)), (1, .int (nI r))]) rfl rfl ⟨rfl, rfl, rfl, trivial⟩ ?_
  refine k_payR (v := v) hr (pn M) 0 M h (R.less (Nat.le_refl _) (by omega)) (by omega) (fun h R => ?_)
  exact x_ret (v := none) rfl rfl rfl ⟨rfl, _, _, R⟩
theorem k_left {A B : Nat → Int64} {r : Nat} (hr : r < 8) {Q : mm_O × mm_H → Prop} : ∀ (m i : Nat) (acc : Int64) (L : Nat → Int64) (h : mm_H), Rep u v X P M (zm z L A B) h → i + m = pn M → (∀ h, Rep u v X P M (zm z (m_lf M r m i L acc).1 A B) h → Wx (d + 1) 89 177 [(4, .long (m_lf M r m i L acc).2), (3, .int (nI r)), (0, .ref (X.1 8))] [] h Q) → Wx (d + 1) 89 97 [(6, .int (nI i)), (4, .long (acc)), (3, .int (nI r)), (0, .ref (X.1 8))] [] h Q := by
  intro m
  induction m with
  | zero =>
    intro i acc L h R hm kk
    have m60 := R.m60
    refine x_run 2 (pc' := 100) (lv' := [(6, .int (nI i)), (4, .long (acc)), (3, .int (nI r)), (0, .ref (X.1 8))]) (st' := [.ref (X.1 8), .int (nI i)]) rfl ?_
    refine x_get (v := .int (nI (pn M))) rfl rfl R.c8 rfl ?_
    refine x_if (c := nI (pn M) ≤ nI i) (t := 177) rfl rfl (fun c1 => ?_) (fun c1 => ?_)
    · replace c1 := (nI_leI (by omega) (by omega)).mp c1
      refine x_lv (a := [(4, .long (acc)), (3, .int (nI r)), (0, .ref (X.1 8))]) rfl rfl ⟨rfl, rfl, rfl, trivial⟩ ?_
      exact kk h R
    · replace c1 := mt (nI_leI (by omega) (by omega)).mpr c1
      omega
  | succ m ih =>
    intro i acc L h R hm kk
    have m60 := R.m60
    have hi : i < pn M := by omega
    have r8 := R.wM.rk hi
    refine x_run 2 (pc' := 100) (lv' := [(6, .int (nI i)), (4, .long (acc)), (3, .int (nI r)), (0, .ref (X.1 8))]) (st' := [.ref (X.1 8), .int (nI i)]) rfl ?_
    refine x_get (v := .int (nI (pn M))) rfl rfl R.c8 rfl ?_
    refine x_if (c := nI (pn M) ≤ nI i) (t := 177) rfl rfl (fun c1 => ?_) (fun c1 => ?_)
    · replace c1 := (nI_leI (by omega) (by omega)).mp c1
      omega
    · replace c1 := mt (nI_leI (by omega) (by omega)).mpr c1
      refine x_run 1 (pc' := 107) (lv' := [(6, .int (nI i)), (4, .long (acc)), (3, .int (nI r)), (0, .ref (X.1 8))]) (st' := [.ref (X.1 8)]) rfl ?_
      refine x_get (v := .ref (X.1 9)) rfl rfl R.c8 rfl ?_
      refine x_run 1 (pc' := 112) (lv' := [(6, .int (nI i)), (4, .long (acc)), (3, .int (nI r)), (0, .ref (X.1 8))]) (st' := [.int (nI i), .ref (X.1 9)]) rfl ?_
      refine x_iald (j := i) rfl R.c9 (mm_idx_nI (by omega) (by omega)) ?_
      refine x_run 1 (pc' := 114) (lv' := [(6, .int (nI i)), (4, .long (acc)), (3, .int (nI r)), (0, .ref (X.1 8))]) (st' := [.int (nI r), .int (nI (pN M 0 i))]) rfl ?_
      refine x_if (c := ¬ nI (pN M 0 i) = nI r) (t := 171) rfl rfl (fun c2 => ?_) (fun c2 => ?_)
      · replace c2 := mt (nI_eq (by omega) (by omega)).mpr c2
        refine x_run 1 (pc' := 174) (lv' := [(6, .int (nI i + 1)), (4, .long (acc)), (3, .int (nI r)), (0, .ref (X.1 8))]) (st' := []) rfl ?_
        rw [nI_1]
        refine x_run 1 (pc' := 97) (lv' := [(6, .int (nI (i + 1))), (4, .long (acc)), (3, .int (nI r)), (0, .ref (X.1 8))]) (st' := []) rfl ?_
        refine x_lv (a := [(6, .int (nI (i + 1))), (4, .long (acc)), (3, .int (nI r)), (0, .ref (X.1 8))]) rfl rfl ⟨rfl, rfl, rfl, rfl, trivial⟩ ?_
        rw [show m_lf M r (m + 1) i L acc = m_lf M r m (i + 1) L acc from by rw [m_lf, if_neg (by omega)]] at kk
        exact ih (i + 1) _ _ _ R (by omega) kk
      · replace c2 := (nI_eq (by omega) (by omega)).mp (Classical.not_not.mp c2)
        refine x_run 1 (pc' := 118) (lv' := [(6, .int (nI i)), (4, .long (acc)), (3, .int (nI r)), (0, .ref (X.1 8))]) (st' := [.ref (X.1 8)]) rfl ?_
        refine x_get (v := .ref (X.1 24)) rfl rfl R.c8 rfl ?_
        refine x_run 3 (pc' := 126) (lv' := [(6, .int (nI i)), (4, .long (acc)), (3, .int (nI r)), (0, .ref (X.1 8))]) (st' := [.int (nI i), .ref (X.1 8), .int (nI i), .ref (X.1 24)]) rfl ?_
        refine x_rd (v := .long (p_net M i)) (k' := 60) (as := [.ref (X.1 8), .int (nI i)]) (rest := [.int (nI i), .ref (X.1 24)]) (x_isV (np := 1) rfl rfl rfl R.c8 rfl) (k_net R hi) ?_
        refine x_run 1 (pc' := 130) (lv' := [(6, .int (nI i)), (4, .long (acc)), (3, .int (nI r)), (0, .ref (X.1 8))]) (st' := [.ref (X.1 8), .long (p_net M i), .int (nI i), .ref (X.1 24)]) rfl ?_
        refine x_get (v := .ref (X.1 13)) rfl rfl R.c8 rfl ?_
        refine x_run 1 (pc' := 135) (lv' := [(6, .int (nI i)), (4, .long (acc)), (3, .int (nI r)), (0, .ref (X.1 8))]) (st' := [.int (nI i), .ref (X.1 13), .long (p_net M i), .int (nI i), .ref (X.1 24)]) rfl ?_
        refine x_lald (j := i) rfl R.c13 (mm_idx_nI (by omega) (by omega)) ?_
        refine x_lle (t := 157) rfl rfl rfl (fun c3 => ?_) (fun c3 => ?_)
        · refine x_run 1 (pc' := 158) (lv' := [(6, .int (nI i)), (4, .long (acc)), (3, .int (nI r)), (0, .ref (X.1 8))]) (st' := [.long (0), .int (nI i), .ref (X.1 24)]) rfl ?_
          refine x_last (j := i) rfl R.c24 (mm_idx_nI (by omega) (by omega)) ?_
          refine gen_h (A := Rep u v X P M (((zm z L A B).1, s2 (zm z L A B).2 0 i (0)))) (R.mLeft _) (fun h R => ?_)
          rw [zm_L] at R
          refine x_run 2 (pc' := 162) (lv' := [(6, .int (nI i)), (4, .long (acc)), (3, .int (nI r)), (0, .ref (X.1 8))]) (st' := [.ref (X.1 8), .long (acc)]) rfl ?_
          refine x_get (v := .ref (X.1 24)) rfl rfl R.c8 rfl ?_
          refine x_run 1 (pc' := 167) (lv' := [(6, .int (nI i)), (4, .long (acc)), (3, .int (nI r)), (0, .ref (X.1 8))]) (st' := [.int (nI i), .ref (X.1 24), .long (acc)]) rfl ?_
          refine x_lald (j := i) rfl R.c24 (mm_idx_nI (by omega) (by omega)) ?_
          refine x_run 3 (pc' := 174) (lv' := [(6, .int (nI i + 1)), (4, .long (acc + ((uF L i (0)) i))), (3, .int (nI r)), (0, .ref (X.1 8))]) (st' := []) rfl ?_
          rw [nI_1]
          refine x_run 1 (pc' := 97) (lv' := [(6, .int (nI (i + 1))), (4, .long (acc + ((uF L i (0)) i))), (3, .int (nI r)), (0, .ref (X.1 8))]) (st' := []) rfl ?_
          refine x_lv (a := [(6, .int (nI (i + 1))), (4, .long (acc + ((uF L i (0)) i))), (3, .int (nI r)), (0, .ref (X.1 8))]) rfl rfl ⟨rfl, rfl, rfl, rfl, trivial⟩ ?_
          rw [show m_lf M r (m + 1) i L acc = m_lf M r m (i + 1) (uF L i (0)) (acc + ((uF L i (0)) i)) from by rw [m_lf, if_pos (by omega), show m_left M i = 0 from if_pos c3]] at kk
          exact ih (i + 1) _ _ _ R (by omega) kk
        · refine x_run 2 (pc' := 143) (lv' := [(6, .int (nI i)), (4, .long (acc)), (3, .int (nI r)), (0, .ref (X.1 8))]) (st' := [.int (nI i), .ref (X.1 8), .int (nI i), .ref (X.1 24)]) rfl ?_
          refine x_rd (v := .long (p_net M i)) (k' := 60) (as := [.ref (X.1 8), .int (nI i)]) (rest := [.int (nI i), .ref (X.1 24)]) (x_isV (np := 1) rfl rfl rfl R.c8 rfl) (k_net R hi) ?_
          refine x_run 1 (pc' := 147) (lv' := [(6, .int (nI i)), (4, .long (acc)), (3, .int (nI r)), (0, .ref (X.1 8))]) (st' := [.ref (X.1 8), .long (p_net M i), .int (nI i), .ref (X.1 24)]) rfl ?_
          refine x_get (v := .ref (X.1 13)) rfl rfl R.c8 rfl ?_
          refine x_run 1 (pc' := 152) (lv' := [(6, .int (nI i)), (4, .long (acc)), (3, .int (nI r)), (0, .ref (X.1 8))]) (st' := [.int (nI i), .ref (X.1 13), .long (p_net M i), .int (nI i), .ref (X.1 24)]) rfl ?_
          refine x_lald (j := i) rfl R.c13 (mm_idx_nI (by omega) (by omega)) ?_
          refine x_run 2 (pc' := 158) (lv' := [(6, .int (nI i)), (4, .long (acc)), (3, .int (nI r)), (0, .ref (X.1 8))]) (st' := [.long ((p_net M i) - (pL M 3 i)), .int (nI i), .ref (X.1 24)]) rfl ?_
          refine x_last (j := i) rfl R.c24 (mm_idx_nI (by omega) (by omega)) ?_
          refine gen_h (A := Rep u v X P M (((zm z L A B).1, s2 (zm z L A B).2 0 i ((p_net M i) - (pL M 3 i))))) (R.mLeft _) (fun h R => ?_)
          rw [zm_L] at R
          refine x_run 2 (pc' := 162) (lv' := [(6, .int (nI i)), (4, .long (acc)), (3, .int (nI r)), (0, .ref (X.1 8))]) (st' := [.ref (X.1 8), .long (acc)]) rfl ?_
          refine x_get (v := .ref (X.1 24)) rfl rfl R.c8 rfl ?_
          refine x_run 1 (pc' := 167) (lv' := [(6, .int (nI i)), (4, .long (acc)), (3, .int (nI r)), (0, .ref (X.1 8))]) (st' := [.int (nI i), .ref (X.1 24), .long (acc)]) rfl ?_
          refine x_lald (j := i) rfl R.c24 (mm_idx_nI (by omega) (by omega)) ?_
          refine x_run 3 (pc' := 174) (lv' := [(6, .int (nI i + 1)), (4, .long (acc + ((uF L i ((p_net M i) - (pL M 3 i))) i))), (3, .int (nI r)), (0, .ref (X.1 8))]) (st' := []) rfl ?_
          rw [nI_1]
          refine x_run 1 (pc' := 97) (lv' := [(6, .int (nI (i + 1))), (4, .long (acc + ((uF L i ((p_net M i) - (pL M 3 i))) i))), (3, .int (nI r)), (0, .ref (X.1 8))]) (st' := []) rfl ?_
          refine x_lv (a := [(6, .int (nI (i + 1))), (4, .long (acc + ((uF L i ((p_net M i) - (pL M 3 i))) i))), (3, .int (nI r)), (0, .ref (X.1 8))]) rfl rfl ⟨rfl, rfl, rfl, rfl, trivial⟩ ?_
          rw [show m_lf M r (m + 1) i L acc = m_lf M r m (i + 1) (uF L i ((p_net M i) - (pL M 3 i))) (acc + ((uF L i ((p_net M i) - (pL M 3 i))) i)) from by rw [m_lf, if_pos (by omega), show m_left M i = (p_net M i - pL M 3 i) from if_neg c3]] at kk
          exact ih (i + 1) _ _ _ R (by omega) kk
theorem k_payL {L A B : Nat → Int64} {r : Nat} (hr : r < 8) {Q : mm_O × mm_H → Prop} : ∀ (m i : Nat) (M : pP) (h : mm_H), Rep u (v + m) X P M (zm z L A B) h → i + m = pn M → (∀ h, Rep u v X P (m_payL L r m i M) (zm z L A B) h → Wx (d + 2) 89 243 [(3, .int (nI r)), (0, .ref (X.1 8))] [] h Q) → Wx (d + 2) 89 200 [(6, .int (nI i)), (3, .int (nI r)), (0, .ref (X.1 8))] [] h Q := by
  intro m
  induction m with
  | zero =>
    intro i M h R hm kk
    have m60 := R.m60
    refine x_run 2 (pc' := 203) (lv' := [(6, .int (nI i)), (3, .int (nI r)), (0, .ref (X.1 8))]) (st' := [.ref (X.1 8), .int (nI i)]) rfl ?_
    refine x_get (v := .int (nI (pn M))) rfl rfl R.c8 rfl ?_
    refine x_if (c := nI (pn M) ≤ nI i) (t := 243) rfl rfl (fun c1 => ?_) (fun c1 => ?_)
    · replace c1 := (nI_leI (by omega) (by omega)).mp c1
      refine x_lv (a := [(3, .int (nI r)), (0, .ref (X.1 8))]) rfl rfl ⟨rfl, rfl, trivial⟩ ?_
      exact kk h R
    · replace c1 := mt (nI_leI (by omega) (by omega)).mpr c1
      omega
  | succ m ih =>
    intro i M h R hm kk
    have R : Rep u (v + m + 1) X P M (zm z L A B) h := R
    have m60 := R.m60
    have hi : i < pn M := by omega
    have r8 := R.wM.rk hi
    refine x_run 2 (pc' := 203) (lv' := [(6, .int (nI i)), (3, .int (nI r)), (0, .ref (X.1 8))]) (st' := [.ref (X.1 8), .int (nI i)]) rfl ?_
    refine x_get (v := .int (nI (pn M))) rfl rfl R.c8 rfl ?_
    refine x_if (c := nI (pn M) ≤ nI i) (t := 243) rfl rfl (fun c1 => ?_) (fun c1 => ?_)
    · replace c1 := (nI_leI (by omega) (by omega)).mp c1
      omega
    · replace c1 := mt (nI_leI (by omega) (by omega)).mpr c1
      refine x_run 3 (pc' := 213) (lv' := [(6, .int (nI i)), (3, .int (nI r)), (0, .ref (X.1 8))]) (st' := [.ref (X.1 8), .int (nI i), .ref (X.1 8)]) rfl ?_
      refine x_get (v := .ref (X.1 9)) rfl rfl R.c8 rfl ?_
      refine x_run 1 (pc' := 218) (lv' := [(6, .int (nI i)), (3, .int (nI r)), (0, .ref (X.1 8))]) (st' := [.int (nI i), .ref (X.1 9), .int (nI i), .ref (X.1 8)]) rfl ?_
      refine x_iald (j := i) rfl R.c9 (mm_idx_nI (by omega) (by omega)) ?_
      refine x_run 1 (pc' := 220) (lv' := [(6, .int (nI i)), (3, .int (nI r)), (0, .ref (X.1 8))]) (st' := [.int (nI r), .int (nI (pN M 0 i)), .int (nI i), .ref (X.1 8)]) rfl ?_
      refine x_if (c := ¬ nI (pN M 0 i) = nI r) (t := 233) rfl rfl (fun c2 => ?_) (fun c2 => ?_)
      · replace c2 := mt (nI_eq (by omega) (by omega)).mpr c2
        refine x_run 1 (pc' := 234) (lv' := [(6, .int (nI i)), (3, .int (nI r)), (0, .ref (X.1 8))]) (st' := [.long (0), .int (nI i), .ref (X.1 8)]) rfl ?_
        refine x_wr0 (A := Rep u (v + m) X P (p_pay M i 0) (zm z L A B)) (k' := 86) (as := [.ref (X.1 8), .int (nI i), .long (0)]) (rest := []) (x_isV (np := 2) rfl rfl rfl R.c8 rfl) (k_pay R hi _) (fun h R => ?_)
        refine x_run 1 (pc' := 240) (lv' := [(6, .int (nI i + 1)), (3, .int (nI r)), (0, .ref (X.1 8))]) (st' := []) rfl ?_
        rw [nI_1]
        refine x_run 1 (pc' := 200) (lv' := [(6, .int (nI (i + 1))), (3, .int (nI r)), (0, .ref (X.1 8))]) (st' := []) rfl ?_
        refine x_lv (a := [(6, .int (nI (i + 1))), (3, .int (nI r)), (0, .ref (X.1 8))]) rfl rfl ⟨rfl, rfl, rfl, trivial⟩ ?_
        rw [show m_payL L r (m + 1) i M = m_payL L r m (i + 1) (p_pay M i 0) from by rw [m_payL, if_neg c2]] at kk
        exact ih (i + 1) _ _ R (by show _ = pn M; omega) kk
      · replace c2 := (nI_eq (by omega) (by omega)).mp (Classical.not_not.mp c2)
        refine x_run 1 (pc' := 224) (lv' := [(6, .int (nI i)), (3, .int (nI r)), (0, .ref (X.1 8))]) (st' := [.ref (X.1 8), .int (nI i), .ref (X.1 8)]) rfl ?_
        refine x_get (v := .ref (X.1 24)) rfl rfl R.c8 rfl ?_
        refine x_run 1 (pc' := 229) (lv' := [(6, .int (nI i)), (3, .int (nI r)), (0, .ref (X.1 8))]) (st' := [.int (nI i), .ref (X.1 24), .int (nI i), .ref (X.1 8)]) rfl ?_
        refine x_lald (j := i) rfl R.c24 (mm_idx_nI (by omega) (by omega)) ?_
        refine x_run 1 (pc' := 234) (lv' := [(6, .int (nI i)), (3, .int (nI r)), (0, .ref (X.1 8))]) (st' := [.long (L i), .int (nI i), .ref (X.1 8)]) rfl ?_
        refine x_wr0 (A := Rep u (v + m) X P (p_pay M i (L i)) (zm z L A B)) (k' := 86) (as := [.ref (X.1 8), .int (nI i), .long (L i)]) (rest := []) (x_isV (np := 2) rfl rfl rfl R.c8 rfl) (k_pay R hi _) (fun h R => ?_)
        refine x_run 1 (pc' := 240) (lv' := [(6, .int (nI i + 1)), (3, .int (nI r)), (0, .ref (X.1 8))]) (st' := []) rfl ?_
        rw [nI_1]
        refine x_run 1 (pc' := 200) (lv' := [(6, .int (nI (i + 1))), (3, .int (nI r)), (0, .ref (X.1 8))]) (st' := []) rfl ?_
        refine x_lv (a := [(6, .int (nI (i + 1))), (3, .int (nI r)), (0, .ref (X.1 8))]) rfl rfl ⟨rfl, rfl, rfl, trivial⟩ ?_
        rw [show m_payL L r (m + 1) i M = m_payL L r m (i + 1) (p_pay M i (L i)) from by rw [m_payL, if_pos c2]] at kk
        exact ih (i + 1) _ _ R (by show _ = pn M; omega) kk
theorem k_drop  {Q : mm_O × mm_H → Prop} : ∀ (m : Nat) (i : Nat) (M : pP) (h : mm_H), Rep u (v + m) X P M z h → i + m = pn M → (∀ h, Rep u v X P (p_drop m i M) z h → Wx (d + 2) 89 76 [(0, .ref (X.1 8))] [] h Q) → Wx (d + 2) 89 34 [(1, .int (nI i)), (0, .ref (X.1 8))] [] h Q := by
  intro m
  induction m with
  | zero =>
    intro i M h R hm kk
    have m60 := R.m60
    refine x_run 2 (pc' := 36) (lv' := [(1, .int (nI i)), (0, .ref (X.1 8))]) (st' := [.ref (X.1 8), .int (nI i)]) rfl ?_
    refine x_get (v := .int (nI (pn M))) rfl rfl R.c8 rfl ?_
    refine x_if (c := nI (pn M) ≤ nI i) (t := 76) rfl rfl (fun c1 => ?_) (fun c1 => ?_)
    · replace c1 := (nI_leI (by omega) (by omega)).mp c1
      refine x_lv (a := [(0, .ref (X.1 8))]) rfl rfl ⟨rfl, trivial⟩ ?_
      exact kk h R
    · replace c1 := mt (nI_leI (by omega) (by omega)).mpr c1
      omega
  | succ m ih =>
    intro i M h R hm kk
    have R : Rep u (v + m + 1) X P M z h := R
    have m60 := R.m60
    have hi : i < pn M := by omega
    refine x_run 2 (pc' := 36) (lv' := [(1, .int (nI i)), (0, .ref (X.1 8))]) (st' := [.ref (X.1 8), .int (nI i)]) rfl ?_
    refine x_get (v := .int (nI (pn M))) rfl rfl R.c8 rfl ?_
    refine x_if (c := nI (pn M) ≤ nI i) (t := 76) rfl rfl (fun c1 => ?_) (fun c1 => ?_)
    · replace c1 := (nI_leI (by omega) (by omega)).mp c1
      omega
    · replace c1 := mt (nI_leI (by omega) (by omega)).mpr c1
      refine x_run 1 (pc' := 43) (lv' := [(1, .int (nI i)), (0, .ref (X.1 8))]) (st' := [.ref (X.1 8)]) rfl ?_
      refine x_get (v := .ref (X.1 15)) rfl rfl R.c8 rfl ?_
      refine x_run 1 (pc' := 47) (lv' := [(1, .int (nI i)), (0, .ref (X.1 8))]) (st' := [.int (nI i), .ref (X.1 15)]) rfl ?_
      refine x_iald (j := i) rfl R.c15 (mm_idx_nI (by omega) (by omega)) ?_
      refine x_run 1 (pc' := 49) (lv' := [(1, .int (nI i)), (0, .ref (X.1 8))]) (st' := [.int (1), .int (pI M 0 i)]) rfl ?_
      refine x_if (c := ¬ pI M 0 i = 1) (t := 70) rfl rfl (fun c2 => ?_) (fun c2 => ?_)
      · refine x_run 1 (pc' := 73) (lv' := [(1, .int (nI i + 1)), (0, .ref (X.1 8))]) (st' := []) rfl ?_
        rw [nI_1]
        refine x_run 1 (pc' := 34) (lv' := [(1, .int (nI (i + 1))), (0, .ref (X.1 8))]) (st' := []) rfl ?_
        refine x_lv (a := [(1, .int (nI (i + 1))), (0, .ref (X.1 8))]) rfl rfl ⟨rfl, rfl, trivial⟩ ?_
        rw [show p_drop (m + 1) i M = p_drop m (i + 1) M from by rw [p_drop]; (rw [if_neg c2]) <;> rfl] at kk
        exact ih (i + 1) _ _ (R.less (Nat.le_refl _) (Nat.le_succ _)) (by show _ = pn M; omega) kk
      · replace c2 := Classical.not_not.mp c2
        refine x_run 1 (pc' := 53) (lv' := [(1, .int (nI i)), (0, .ref (X.1 8))]) (st' := [.ref (X.1 8)]) rfl ?_
        refine x_get (v := .ref (X.1 15)) rfl rfl R.c8 rfl ?_
        refine x_run 2 (pc' := 58) (lv' := [(1, .int (nI i)), (0, .ref (X.1 8))]) (st' := [.int (2), .int (nI i), .ref (X.1 15)]) rfl ?_
        refine x_iast (j := i) rfl R.c15 (mm_idx_nI (by omega) (by omega)) ?_
        refine gen_h (A := Rep u (v + m + 1) X P (sI M 0 i (2)) z) (R.mState _) (fun h R => ?_)
        refine x_run 3 (pc' := 62) (lv' := [(1, .int (nI i)), (0, .ref (X.1 8))]) (st' := [.ref (X.1 8), .int (nI i), .ref (X.1 8)]) rfl ?_
        refine x_get (v := .ref (X.1 14)) rfl rfl R.c8 rfl ?_
        refine x_run 1 (pc' := 66) (lv' := [(1, .int (nI i)), (0, .ref (X.1 8))]) (st' := [.int (nI i), .ref (X.1 14), .int (nI i), .ref (X.1 8)]) rfl ?_
        refine x_lald (j := i) rfl R.c14 (mm_idx_nI (by omega) (by omega)) ?_
        refine x_wr0 (A := Rep u (v + m) X P (p_release (sI M 0 i (2)) i (pL M 4 i)) z) (k' := 68) (as := [.ref (X.1 8), .int (nI i), .long (pL M 4 i)]) (rest := []) (x_isV (np := 2) rfl rfl rfl R.c8 rfl) (k_release R hi _) (fun h R => ?_)
        refine x_run 1 (pc' := 73) (lv' := [(1, .int (nI i + 1)), (0, .ref (X.1 8))]) (st' := []) rfl ?_
        rw [nI_1]
        refine x_run 1 (pc' := 34) (lv' := [(1, .int (nI (i + 1))), (0, .ref (X.1 8))]) (st' := []) rfl ?_
        refine x_lv (a := [(1, .int (nI (i + 1))), (0, .ref (X.1 8))]) rfl rfl ⟨rfl, rfl, trivial⟩ ?_
        rw [show p_drop (m + 1) i M = p_drop m (i + 1) (p_release (sI M 0 i (2)) i (pL M 4 i)) from by rw [p_drop]; (rw [if_pos c2]) <;> rfl] at kk
        exact ih (i + 1) _ _ R (by show _ = pn M; omega) kk
end MOD7
