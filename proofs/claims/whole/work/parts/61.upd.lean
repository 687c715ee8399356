section UPD
variable {u v : Nat} {X : xX} {P M : pP} {z : zZ} {h : mm_H} {i j q : Nat}
theorem updV_s {α : Type} (g : α → Value) (F : Nat → Nat → α) (f q : Nat) (x : α) : updV (fun i => g (F f i)) q (g x) = fun i => g (s2 F f q x f i) := by
  funext i
  unfold updV s2
  by_cases hq : i = q
  · rw [if_pos hq, if_pos ⟨rfl, hq⟩]
  · rw [if_neg hq, if_neg (fun e => hq e.2)]
theorem wf_pct {x : Nat} (w : wf v P) (hx : x ≤ 10000) : wf v (sN P 3 q x) := by
  refine ⟨w.1, w.2.1, w.2.2.1, w.2.2.2.1, w.2.2.2.2.1, w.2.2.2.2.2.1, fun r => ?_⟩
  show s2 P.2.1 3 q x 3 r ≤ 10000
  unfold s2
  split
  · exact hx
  · exact w.pc r
theorem Rep.lvC (R : Rep u v X P M z h) (hi : i < pn P) : lv X P (100 + i) := Or.inr (Or.inl (by omega))
theorem Rep.lvA (R : Rep u v X P M z h) (hi : i < pa P) : lv X P (200 + i) := Or.inr (Or.inr (Or.inl (by omega)))
theorem Rep.uState (R : Rep u v X P M z h) (hi : i < pn P) (x : Int32) : Rep u v X (sI P 0 i x) M z (mm_upd h (X.1 (100 + i)) (.inl (1, (fc P i).set 2 (.int x)))) := by
  have := R.n60
  refine R.upd (t0 := 100 + i) (R.lvC hi) (fun _ h => h) ?_ (ct_claim rfl (fun q hq => ?_) (fun _ => rfl) (fun _ => rfl) (fun _ => rfl)) R.wP R.wM
  · rw [ct_C (by omega)]
    simp [ctC, fc, sL, sI, pI, pL, pN, s2]
  · simp [ctC, fc, sL, sI, pI, pL, pN, s2, hq]
theorem Rep.uAmount (R : Rep u v X P M z h) (hi : i < pn P) (x : Int64) : Rep u v X (sL P 0 i x) M z (mm_upd h (X.1 (100 + i)) (.inl (1, (fc P i).set 3 (.long x)))) := by
  have := R.n60
  refine R.upd (t0 := 100 + i) (R.lvC hi) (fun _ h => h) ?_ (ct_claim rfl (fun q hq => ?_) (fun _ => rfl) (fun _ => rfl) (fun _ => rfl)) R.wP R.wM
  · rw [ct_C (by omega)]
    simp [ctC, fc, sL, sI, pI, pL, pN, s2]
  · simp [ctC, fc, sL, sI, pI, pL, pN, s2, hq]
theorem Rep.uDebt (R : Rep u v X P M z h) (hi : i < pn P) (x : Int64) : Rep u v X (sL P 1 i x) M z (mm_upd h (X.1 (100 + i)) (.inl (1, (fc P i).set 4 (.long x)))) := by
  have := R.n60
  refine R.upd (t0 := 100 + i) (R.lvC hi) (fun _ h => h) ?_ (ct_claim rfl (fun q hq => ?_) (fun _ => rfl) (fun _ => rfl) (fun _ => rfl)) R.wP R.wM
  · rw [ct_C (by omega)]
    simp [ctC, fc, sL, sI, pI, pL, pN, s2]
  · simp [ctC, fc, sL, sI, pI, pL, pN, s2, hq]
theorem Rep.uGot (R : Rep u v X P M z h) (hi : i < pn P) (x : Int64) : Rep u v X (sL P 2 i x) M z (mm_upd h (X.1 (100 + i)) (.inl (1, (fc P i).set 5 (.long x)))) := by
  have := R.n60
  refine R.upd (t0 := 100 + i) (R.lvC hi) (fun _ h => h) ?_ (ct_claim rfl (fun q hq => ?_) (fun _ => rfl) (fun _ => rfl) (fun _ => rfl)) R.wP R.wM
  · rw [ct_C (by omega)]
    simp [ctC, fc, sL, sI, pI, pL, pN, s2]
  · simp [ctC, fc, sL, sI, pI, pL, pN, s2, hq]
theorem Rep.uPaid (R : Rep u v X P M z h) (hi : i < pn P) (x : Int64) : Rep u v X (sL P 3 i x) M z (mm_upd h (X.1 (100 + i)) (.inl (1, (fc P i).set 6 (.long x)))) := by
  have := R.n60
  refine R.upd (t0 := 100 + i) (R.lvC hi) (fun _ h => h) ?_ (ct_claim rfl (fun q hq => ?_) (fun _ => rfl) (fun _ => rfl) (fun _ => rfl)) R.wP R.wM
  · rw [ct_C (by omega)]
    simp [ctC, fc, sL, sI, pI, pL, pN, s2]
  · simp [ctC, fc, sL, sI, pI, pL, pN, s2, hq]
theorem Rep.uRes (R : Rep u v X P M z h) (hi : i < pn P) (x : Int64) : Rep u v X (sL P 4 i x) M z (mm_upd h (X.1 (100 + i)) (.inl (1, (fc P i).set 7 (.long x)))) := by
  have := R.n60
  refine R.upd (t0 := 100 + i) (R.lvC hi) (fun _ h => h) ?_ (ct_claim rfl (fun q hq => ?_) (fun _ => rfl) (fun _ => rfl) (fun _ => rfl)) R.wP R.wM
  · rw [ct_C (by omega)]
    simp [ctC, fc, sL, sI, pI, pL, pN, s2]
  · simp [ctC, fc, sL, sI, pI, pL, pN, s2, hq]
theorem Rep.uUnre (R : Rep u v X P M z h) (hi : i < pn P) (x : Int32) : Rep u v X (sI P 5 i x) M z (mm_upd h (X.1 (100 + i)) (.inl (1, (fc P i).set 8 (.int x)))) := by
  have := R.n60
  refine R.upd (t0 := 100 + i) (R.lvC hi) (fun _ h => h) ?_ (ct_claim rfl (fun q hq => ?_) (fun _ => rfl) (fun _ => rfl) (fun _ => rfl)) R.wP R.wM
  · rw [ct_C (by omega)]
    simp [ctC, fc, sL, sI, pI, pL, pN, s2]
  · simp [ctC, fc, sL, sI, pI, pL, pN, s2, hq]
theorem Rep.uReal (R : Rep u v X P M z h) (hi : i < pa P) (x : Int32) : Rep u v X (sI P 1 i x) M z (mm_upd h (X.1 (200 + i)) (.inl (2, (fa X P i).set 3 (.int x)))) := by
  have := R.a20
  refine R.upd (t0 := 200 + i) (R.lvA hi) (fun _ h => h) ?_ (ct_asset rfl (fun _ => rfl) (fun q hq => ?_) (fun _ => rfl) (fun _ => rfl)) R.wP R.wM
  · rw [ct_A (by omega)]
    simp [ctA, fa, sL, sI, pI, pL, pN, s2]
  · simp [ctA, fa, sL, sI, pI, pL, pN, s2, hq]
theorem Rep.uCash (R : Rep u v X P M z h) (x : Int64) : Rep u v X (sL P 7 0 x) (M) (z) (mm_upd h (X.1 0) (.inl (0, (fx X P).set 6 (.long x)))) :=
  R.upd (t0 := 0) (Or.inl (by omega)) (fun _ h => h) rfl (ct_tag rfl (fun _ => rfl) (fun _ => rfl) (fun _ => rfl) (fun _ => rfl)) R.wP R.wM
theorem Rep.uInc (R : Rep u v X P M z h) (x : Int64) : Rep u v X (sL P 7 1 x) (M) (z) (mm_upd h (X.1 0) (.inl (0, (fx X P).set 7 (.long x)))) :=
  R.upd (t0 := 0) (Or.inl (by omega)) (fun _ h => h) rfl (ct_tag rfl (fun _ => rfl) (fun _ => rfl) (fun _ => rfl) (fun _ => rfl)) R.wP R.wM
theorem Rep.uSpent (R : Rep u v X P M z h) (x : Int64) : Rep u v X (sL P 7 2 x) (M) (z) (mm_upd h (X.1 0) (.inl (0, (fx X P).set 8 (.long x)))) :=
  R.upd (t0 := 0) (Or.inl (by omega)) (fun _ h => h) rfl (ct_tag rfl (fun _ => rfl) (fun _ => rfl) (fun _ => rfl) (fun _ => rfl)) R.wP R.wM
theorem Rep.uEnded (R : Rep u v X P M z h) (x : Int32) : Rep u v X (sI P 4 0 x) (M) (z) (mm_upd h (X.1 0) (.inl (0, (fx X P).set 9 (.int x)))) :=
  R.upd (t0 := 0) (Or.inl (by omega)) (fun _ h => h) rfl (ct_tag rfl (fun _ => rfl) (fun _ => rfl) (fun _ => rfl) (fun _ => rfl)) R.wP R.wM
theorem Rep.uCount (R : Rep u (v + 1) X P M z h) : Rep u v X (sC P (pn P) (pa P) (pj P + 1)) (M) (z) (mm_upd h (X.1 4) (.inl (3, (fj X P).set 3 (.int (nI (pj P + 1)))))) :=
  R.upd (t0 := 4) (Or.inl (by omega)) (fun _ h => h) rfl (ct_tag rfl (fun _ => rfl) (fun _ => rfl) (fun _ => rfl) (fun _ => rfl)) ⟨R.wP.1, R.wP.2.1, (show P.1.2.2 + 1 + v ≤ 2 ^ 30 by have := R.wP.2.2.1; unfold pj at this; omega), R.wP.2.2.2⟩ (R.wM.less (Nat.le_succ v))
theorem Rep.mCode (R : Rep u v X P M z h) (x : Int32) : Rep u v X (P) (M) ((x, z.2)) (mm_upd h (X.1 8) (.inl (4, (fm X M z).set 0 (.int x)))) :=
  R.upd (t0 := 8) (Or.inl (by omega)) (fun _ h => h) rfl (ct_tag rfl (fun _ => rfl) (fun _ => rfl) (fun _ => rfl) (fun _ => rfl)) R.wP R.wM
theorem Rep.mEnded (R : Rep u v X P M z h) (x : Int32) : Rep u v X (P) (sI M 4 0 x) (z) (mm_upd h (X.1 8) (.inl (4, (fm X M z).set 1 (.int x)))) :=
  R.upd (t0 := 8) (Or.inl (by omega)) (fun _ h => h) rfl (ct_tag rfl (fun _ => rfl) (fun _ => rfl) (fun _ => rfl) (fun _ => rfl)) R.wP R.wM
theorem Rep.mClaims (R : Rep u v X P M z h) {n : Nat} (hw : wf v (sC M n (pa M) (pj M))) : Rep u v X (P) (sC M n (pa M) (pj M)) (z) (mm_upd h (X.1 8) (.inl (4, (fm X M z).set 2 (.int (nI n))))) :=
  R.upd (t0 := 8) (Or.inl (by omega)) (fun _ h => h) rfl (ct_tag rfl (fun _ => rfl) (fun _ => rfl) (fun _ => rfl) (fun _ => rfl)) R.wP hw
theorem Rep.mAssets (R : Rep u v X P M z h) {n : Nat} (hw : wf v (sC M (pn M) n (pj M))) : Rep u v X (P) (sC M (pn M) n (pj M)) (z) (mm_upd h (X.1 8) (.inl (4, (fm X M z).set 10 (.int (nI n))))) :=
  R.upd (t0 := 8) (Or.inl (by omega)) (fun _ h => h) rfl (ct_tag rfl (fun _ => rfl) (fun _ => rfl) (fun _ => rfl) (fun _ => rfl)) R.wP hw
theorem Rep.mCash (R : Rep u v X P M z h) (x : Int64) : Rep u v X (P) (sL M 7 0 x) (z) (mm_upd h (X.1 8) (.inl (4, (fm X M z).set 16 (.long x)))) :=
  R.upd (t0 := 8) (Or.inl (by omega)) (fun _ h => h) rfl (ct_tag rfl (fun _ => rfl) (fun _ => rfl) (fun _ => rfl) (fun _ => rfl)) R.wP R.wM
theorem Rep.mInc (R : Rep u v X P M z h) (x : Int64) : Rep u v X (P) (sL M 7 1 x) (z) (mm_upd h (X.1 8) (.inl (4, (fm X M z).set 17 (.long x)))) :=
  R.upd (t0 := 8) (Or.inl (by omega)) (fun _ h => h) rfl (ct_tag rfl (fun _ => rfl) (fun _ => rfl) (fun _ => rfl) (fun _ => rfl)) R.wP R.wM
theorem Rep.mSpent (R : Rep u v X P M z h) (x : Int64) : Rep u v X (P) (sL M 7 2 x) (z) (mm_upd h (X.1 8) (.inl (4, (fm X M z).set 18 (.long x)))) :=
  R.upd (t0 := 8) (Or.inl (by omega)) (fun _ h => h) rfl (ct_tag rfl (fun _ => rfl) (fun _ => rfl) (fun _ => rfl) (fun _ => rfl)) R.wP R.wM
theorem Rep.mCount (R : Rep u (v + 1) X P M z h) : Rep u v X (P) (sC M (pn M) (pa M) (pj M + 1)) (z) (mm_upd h (X.1 8) (.inl (4, (fm X M z).set 19 (.int (nI (pj M + 1)))))) :=
  R.upd (t0 := 8) (Or.inl (by omega)) (fun _ h => h) rfl (ct_tag rfl (fun _ => rfl) (fun _ => rfl) (fun _ => rfl) (fun _ => rfl)) (R.wP.less (Nat.le_succ v)) ⟨R.wM.1, R.wM.2.1, (show M.1.2.2 + 1 + v ≤ 2 ^ 30 by have := R.wM.2.2.1; unfold pj at this; omega), R.wM.2.2.2⟩
theorem Rep.uPct (R : Rep u v X P M z h) {q : Nat} (x : Nat) (hx : x ≤ 10000) : Rep u v X (sN P 3 q x) (M) (z) (mm_upd h (X.1 3) (.inr (0, 8, updV (fun i => Value.int (nI (pN P 3 i))) q (Value.int (nI (x)))))) := by
  rw [show updV (fun i => Value.int (nI (pN P 3 i))) q (Value.int (nI (x))) = fun i => Value.int (nI (s2 (P.2.1) 3 q x 3 i)) from updV_s (fun y => Value.int (nI (y))) (P.2.1) 3 q x]
  exact R.upd (t0 := 3) (Or.inl (by omega)) (fun _ h => h) rfl (ct_tag rfl (fun _ => rfl) (fun _ => rfl) (fun _ => rfl) (fun _ => rfl)) (wf_pct R.wP hx) R.wM
theorem Rep.uKind (R : Rep u v X P M z h) {q : Nat} (x : Int32) : Rep u v X (sI P 2 q x) (M) (z) (mm_upd h (X.1 5) (.inr (0, 3000, updV (fun i => Value.int (pI P 2 i)) q (Value.int (x))))) := by
  rw [show updV (fun i => Value.int (pI P 2 i)) q (Value.int (x)) = fun i => Value.int (s2 (P.2.2.1) 2 q x 2 i) from updV_s (fun y => Value.int (y)) (P.2.2.1) 2 q x]
  exact R.upd (t0 := 5) (Or.inl (by omega)) (fun _ h => h) rfl (ct_tag rfl (fun _ => rfl) (fun _ => rfl) (fun _ => rfl) (fun _ => rfl)) R.wP R.wM
theorem Rep.uOwner (R : Rep u v X P M z h) {q : Nat} (x : Int32) : Rep u v X (sI P 3 q x) (M) (z) (mm_upd h (X.1 6) (.inr (0, 3000, updV (fun i => Value.int (pI P 3 i)) q (Value.int (x))))) := by
  rw [show updV (fun i => Value.int (pI P 3 i)) q (Value.int (x)) = fun i => Value.int (s2 (P.2.2.1) 3 q x 3 i) from updV_s (fun y => Value.int (y)) (P.2.2.1) 3 q x]
  exact R.upd (t0 := 6) (Or.inl (by omega)) (fun _ h => h) rfl (ct_tag rfl (fun _ => rfl) (fun _ => rfl) (fun _ => rfl) (fun _ => rfl)) R.wP R.wM
theorem Rep.uCents (R : Rep u v X P M z h) {q : Nat} (x : Int64) : Rep u v X (sL P 6 q x) (M) (z) (mm_upd h (X.1 7) (.inr (1, 3000, updV (fun i => Value.long (pL P 6 i)) q (Value.long (x))))) := by
  rw [show updV (fun i => Value.long (pL P 6 i)) q (Value.long (x)) = fun i => Value.long (s2 (P.2.2.2) 6 q x 6 i) from updV_s (fun y => Value.long (y)) (P.2.2.2) 6 q x]
  exact R.upd (t0 := 7) (Or.inl (by omega)) (fun _ h => h) rfl (ct_tag rfl (fun _ => rfl) (fun _ => rfl) (fun _ => rfl) (fun _ => rfl)) R.wP R.wM
theorem Rep.mRank (R : Rep u v X P M z h) {q : Nat} (x : Nat) (hw : wf v (sN M 0 q x)) : Rep u v X (P) (sN M 0 q x) (z) (mm_upd h (X.1 9) (.inr (0, 60, updV (fun i => Value.int (nI (pN M 0 i))) q (Value.int (nI (x)))))) := by
  rw [show updV (fun i => Value.int (nI (pN M 0 i))) q (Value.int (nI (x))) = fun i => Value.int (nI (s2 (M.2.1) 0 q x 0 i)) from updV_s (fun y => Value.int (nI (y))) (M.2.1) 0 q x]
  exact R.upd (t0 := 9) (Or.inl (by omega)) (fun _ h => h) rfl (ct_tag rfl (fun _ => rfl) (fun _ => rfl) (fun _ => rfl) (fun _ => rfl)) R.wP hw
theorem Rep.mAmount (R : Rep u v X P M z h) {q : Nat} (x : Int64) : Rep u v X (P) (sL M 0 q x) (z) (mm_upd h (X.1 10) (.inr (1, 60, updV (fun i => Value.long (pL M 0 i)) q (Value.long (x))))) := by
  rw [show updV (fun i => Value.long (pL M 0 i)) q (Value.long (x)) = fun i => Value.long (s2 (M.2.2.2) 0 q x 0 i) from updV_s (fun y => Value.long (y)) (M.2.2.2) 0 q x]
  exact R.upd (t0 := 10) (Or.inl (by omega)) (fun _ h => h) rfl (ct_tag rfl (fun _ => rfl) (fun _ => rfl) (fun _ => rfl) (fun _ => rfl)) R.wP R.wM
theorem Rep.mDebt (R : Rep u v X P M z h) {q : Nat} (x : Int64) : Rep u v X (P) (sL M 1 q x) (z) (mm_upd h (X.1 11) (.inr (1, 60, updV (fun i => Value.long (pL M 1 i)) q (Value.long (x))))) := by
  rw [show updV (fun i => Value.long (pL M 1 i)) q (Value.long (x)) = fun i => Value.long (s2 (M.2.2.2) 1 q x 1 i) from updV_s (fun y => Value.long (y)) (M.2.2.2) 1 q x]
  exact R.upd (t0 := 11) (Or.inl (by omega)) (fun _ h => h) rfl (ct_tag rfl (fun _ => rfl) (fun _ => rfl) (fun _ => rfl) (fun _ => rfl)) R.wP R.wM
theorem Rep.mGot (R : Rep u v X P M z h) {q : Nat} (x : Int64) : Rep u v X (P) (sL M 2 q x) (z) (mm_upd h (X.1 12) (.inr (1, 60, updV (fun i => Value.long (pL M 2 i)) q (Value.long (x))))) := by
  rw [show updV (fun i => Value.long (pL M 2 i)) q (Value.long (x)) = fun i => Value.long (s2 (M.2.2.2) 2 q x 2 i) from updV_s (fun y => Value.long (y)) (M.2.2.2) 2 q x]
  exact R.upd (t0 := 12) (Or.inl (by omega)) (fun _ h => h) rfl (ct_tag rfl (fun _ => rfl) (fun _ => rfl) (fun _ => rfl) (fun _ => rfl)) R.wP R.wM
theorem Rep.mPaid (R : Rep u v X P M z h) {q : Nat} (x : Int64) : Rep u v X (P) (sL M 3 q x) (z) (mm_upd h (X.1 13) (.inr (1, 60, updV (fun i => Value.long (pL M 3 i)) q (Value.long (x))))) := by
  rw [show updV (fun i => Value.long (pL M 3 i)) q (Value.long (x)) = fun i => Value.long (s2 (M.2.2.2) 3 q x 3 i) from updV_s (fun y => Value.long (y)) (M.2.2.2) 3 q x]
  exact R.upd (t0 := 13) (Or.inl (by omega)) (fun _ h => h) rfl (ct_tag rfl (fun _ => rfl) (fun _ => rfl) (fun _ => rfl) (fun _ => rfl)) R.wP R.wM
theorem Rep.mRes (R : Rep u v X P M z h) {q : Nat} (x : Int64) : Rep u v X (P) (sL M 4 q x) (z) (mm_upd h (X.1 14) (.inr (1, 60, updV (fun i => Value.long (pL M 4 i)) q (Value.long (x))))) := by
  rw [show updV (fun i => Value.long (pL M 4 i)) q (Value.long (x)) = fun i => Value.long (s2 (M.2.2.2) 4 q x 4 i) from updV_s (fun y => Value.long (y)) (M.2.2.2) 4 q x]
  exact R.upd (t0 := 14) (Or.inl (by omega)) (fun _ h => h) rfl (ct_tag rfl (fun _ => rfl) (fun _ => rfl) (fun _ => rfl) (fun _ => rfl)) R.wP R.wM
theorem Rep.mState (R : Rep u v X P M z h) {q : Nat} (x : Int32) : Rep u v X (P) (sI M 0 q x) (z) (mm_upd h (X.1 15) (.inr (0, 60, updV (fun i => Value.int (pI M 0 i)) q (Value.int (x))))) := by
  rw [show updV (fun i => Value.int (pI M 0 i)) q (Value.int (x)) = fun i => Value.int (s2 (M.2.2.1) 0 q x 0 i) from updV_s (fun y => Value.int (y)) (M.2.2.1) 0 q x]
  exact R.upd (t0 := 15) (Or.inl (by omega)) (fun _ h => h) rfl (ct_tag rfl (fun _ => rfl) (fun _ => rfl) (fun _ => rfl) (fun _ => rfl)) R.wP R.wM
theorem Rep.mReal (R : Rep u v X P M z h) {q : Nat} (x : Int32) : Rep u v X (P) (sI M 1 q x) (z) (mm_upd h (X.1 16) (.inr (2, 20, updV (fun i => Value.int (pI M 1 i)) q (Value.int (x))))) := by
  rw [show updV (fun i => Value.int (pI M 1 i)) q (Value.int (x)) = fun i => Value.int (s2 (M.2.2.1) 1 q x 1 i) from updV_s (fun y => Value.int (y)) (M.2.2.1) 1 q x]
  exact R.upd (t0 := 16) (Or.inl (by omega)) (fun _ h => h) rfl (ct_tag rfl (fun _ => rfl) (fun _ => rfl) (fun _ => rfl) (fun _ => rfl)) R.wP R.wM
theorem Rep.mMany (R : Rep u v X P M z h) {q : Nat} (x : Nat) (hw : wf v (sN M 1 q x)) : Rep u v X (P) (sN M 1 q x) (z) (mm_upd h (X.1 17) (.inr (0, 20, updV (fun i => Value.int (nI (pN M 1 i))) q (Value.int (nI (x)))))) := by
  rw [show updV (fun i => Value.int (nI (pN M 1 i))) q (Value.int (nI (x))) = fun i => Value.int (nI (s2 (M.2.1) 1 q x 1 i)) from updV_s (fun y => Value.int (nI (y))) (M.2.1) 1 q x]
  exact R.upd (t0 := 17) (Or.inl (by omega)) (fun _ h => h) rfl (ct_tag rfl (fun _ => rfl) (fun _ => rfl) (fun _ => rfl) (fun _ => rfl)) R.wP hw
theorem Rep.mHold (R : Rep u v X P M z h) {q : Nat} (x : Nat) (hw : wf v (sN M 2 q x)) : Rep u v X (P) (sN M 2 q x) (z) (mm_upd h (X.1 18) (.inr (0, 80, updV (fun i => Value.int (nI (pN M 2 i))) q (Value.int (nI (x)))))) := by
  rw [show updV (fun i => Value.int (nI (pN M 2 i))) q (Value.int (nI (x))) = fun i => Value.int (nI (s2 (M.2.1) 2 q x 2 i)) from updV_s (fun y => Value.int (nI (y))) (M.2.1) 2 q x]
  exact R.upd (t0 := 18) (Or.inl (by omega)) (fun _ h => h) rfl (ct_tag rfl (fun _ => rfl) (fun _ => rfl) (fun _ => rfl) (fun _ => rfl)) R.wP hw
theorem Rep.mLimit (R : Rep u v X P M z h) {q : Nat} (x : Int64) : Rep u v X (P) (sL M 5 q x) (z) (mm_upd h (X.1 19) (.inr (1, 80, updV (fun i => Value.long (pL M 5 i)) q (Value.long (x))))) := by
  rw [show updV (fun i => Value.long (pL M 5 i)) q (Value.long (x)) = fun i => Value.long (s2 (M.2.2.2) 5 q x 5 i) from updV_s (fun y => Value.long (y)) (M.2.2.2) 5 q x]
  exact R.upd (t0 := 19) (Or.inl (by omega)) (fun _ h => h) rfl (ct_tag rfl (fun _ => rfl) (fun _ => rfl) (fun _ => rfl) (fun _ => rfl)) R.wP R.wM
theorem Rep.mPct (R : Rep u v X P M z h) {q : Nat} (x : Nat) (hx : x ≤ 10000) : Rep u v X (P) (sN M 3 q x) (z) (mm_upd h (X.1 20) (.inr (0, 8, updV (fun i => Value.int (nI (pN M 3 i))) q (Value.int (nI (x)))))) := by
  rw [show updV (fun i => Value.int (nI (pN M 3 i))) q (Value.int (nI (x))) = fun i => Value.int (nI (s2 (M.2.1) 3 q x 3 i)) from updV_s (fun y => Value.int (nI (y))) (M.2.1) 3 q x]
  exact R.upd (t0 := 20) (Or.inl (by omega)) (fun _ h => h) rfl (ct_tag rfl (fun _ => rfl) (fun _ => rfl) (fun _ => rfl) (fun _ => rfl)) R.wP (wf_pct R.wM hx)
theorem Rep.mKind (R : Rep u v X P M z h) {q : Nat} (x : Int32) : Rep u v X (P) (sI M 2 q x) (z) (mm_upd h (X.1 21) (.inr (0, 3000, updV (fun i => Value.int (pI M 2 i)) q (Value.int (x))))) := by
  rw [show updV (fun i => Value.int (pI M 2 i)) q (Value.int (x)) = fun i => Value.int (s2 (M.2.2.1) 2 q x 2 i) from updV_s (fun y => Value.int (y)) (M.2.2.1) 2 q x]
  exact R.upd (t0 := 21) (Or.inl (by omega)) (fun _ h => h) rfl (ct_tag rfl (fun _ => rfl) (fun _ => rfl) (fun _ => rfl) (fun _ => rfl)) R.wP R.wM
theorem Rep.mWhose (R : Rep u v X P M z h) {q : Nat} (x : Int32) : Rep u v X (P) (sI M 3 q x) (z) (mm_upd h (X.1 22) (.inr (0, 3000, updV (fun i => Value.int (pI M 3 i)) q (Value.int (x))))) := by
  rw [show updV (fun i => Value.int (pI M 3 i)) q (Value.int (x)) = fun i => Value.int (s2 (M.2.2.1) 3 q x 3 i) from updV_s (fun y => Value.int (y)) (M.2.2.1) 3 q x]
  exact R.upd (t0 := 22) (Or.inl (by omega)) (fun _ h => h) rfl (ct_tag rfl (fun _ => rfl) (fun _ => rfl) (fun _ => rfl) (fun _ => rfl)) R.wP R.wM
theorem Rep.mCents (R : Rep u v X P M z h) {q : Nat} (x : Int64) : Rep u v X (P) (sL M 6 q x) (z) (mm_upd h (X.1 23) (.inr (1, 3000, updV (fun i => Value.long (pL M 6 i)) q (Value.long (x))))) := by
  rw [show updV (fun i => Value.long (pL M 6 i)) q (Value.long (x)) = fun i => Value.long (s2 (M.2.2.2) 6 q x 6 i) from updV_s (fun y => Value.long (y)) (M.2.2.2) 6 q x]
  exact R.upd (t0 := 23) (Or.inl (by omega)) (fun _ h => h) rfl (ct_tag rfl (fun _ => rfl) (fun _ => rfl) (fun _ => rfl) (fun _ => rfl)) R.wP R.wM
theorem Rep.mLeft (R : Rep u v X P M z h) {q : Nat} (x : Int64) : Rep u v X (P) (M) ((z.1, s2 z.2 0 q x)) (mm_upd h (X.1 24) (.inr (1, 60, updV (fun i => Value.long (z.2 0 i)) q (Value.long (x))))) := by
  rw [show updV (fun i => Value.long (z.2 0 i)) q (Value.long (x)) = fun i => Value.long (s2 (z.2) 0 q x 0 i) from updV_s (fun y => Value.long (y)) (z.2) 0 q x]
  exact R.upd (t0 := 24) (Or.inl (by omega)) (fun _ h => h) rfl (ct_tag rfl (fun _ => rfl) (fun _ => rfl) (fun _ => rfl) (fun _ => rfl)) R.wP R.wM
theorem Rep.mShare (R : Rep u v X P M z h) {q : Nat} (x : Int64) : Rep u v X (P) (M) ((z.1, s2 z.2 1 q x)) (mm_upd h (X.1 25) (.inr (1, 60, updV (fun i => Value.long (z.2 1 i)) q (Value.long (x))))) := by
  rw [show updV (fun i => Value.long (z.2 1 i)) q (Value.long (x)) = fun i => Value.long (s2 (z.2) 1 q x 1 i) from updV_s (fun y => Value.long (y)) (z.2) 1 q x]
  exact R.upd (t0 := 25) (Or.inl (by omega)) (fun _ h => h) rfl (ct_tag rfl (fun _ => rfl) (fun _ => rfl) (fun _ => rfl) (fun _ => rfl)) R.wP R.wM
theorem Rep.mOver (R : Rep u v X P M z h) {q : Nat} (x : Int64) : Rep u v X (P) (M) ((z.1, s2 z.2 2 q x)) (mm_upd h (X.1 26) (.inr (1, 60, updV (fun i => Value.long (z.2 2 i)) q (Value.long (x))))) := by
  rw [show updV (fun i => Value.long (z.2 2 i)) q (Value.long (x)) = fun i => Value.long (s2 (z.2) 2 q x 2 i) from updV_s (fun y => Value.long (y)) (z.2) 2 q x]
  exact R.upd (t0 := 26) (Or.inl (by omega)) (fun _ h => h) rfl (ct_tag rfl (fun _ => rfl) (fun _ => rfl) (fun _ => rfl) (fun _ => rfl)) R.wP R.wM
theorem Rep.uShare (R : Rep u v X P M z h) {q : Nat} (x : Int64) (hw : X.2.1 = 2) : Rep u v X (P) (M) ((z.1, s2 z.2 3 q x)) (mm_upd h (X.1 29) (.inr (1, pn P, updV (fun i => Value.long (z.2 3 i)) q (Value.long (x))))) := by
  rw [show updV (fun i => Value.long (z.2 3 i)) q (Value.long (x)) = fun i => Value.long (s2 (z.2) 3 q x 3 i) from updV_s (fun y => Value.long (y)) (z.2) 3 q x]
  exact R.upd (t0 := 29) (Or.inl (by omega)) (fun _ h => h) rfl (ct_tag rfl (fun _ => rfl) (fun _ => rfl) (fun _ => rfl) (fun _ => rfl)) R.wP R.wM
theorem Rep.uRem (R : Rep u v X P M z h) {q : Nat} (x : Int64) (hw : X.2.1 = 2) : Rep u v X (P) (M) ((z.1, s2 z.2 4 q x)) (mm_upd h (X.1 30) (.inr (1, pn P, updV (fun i => Value.long (z.2 4 i)) q (Value.long (x))))) := by
  rw [show updV (fun i => Value.long (z.2 4 i)) q (Value.long (x)) = fun i => Value.long (s2 (z.2) 4 q x 4 i) from updV_s (fun y => Value.long (y)) (z.2) 4 q x]
  exact R.upd (t0 := 30) (Or.inl (by omega)) (fun _ h => h) rfl (ct_tag rfl (fun _ => rfl) (fun _ => rfl) (fun _ => rfl) (fun _ => rfl)) R.wP R.wM
theorem Rep.uOut (R : Rep u v X P M z h) {q : Nat} (x : Int64) : Rep u v X (P) (M) ((z.1, s2 z.2 5 q x)) (mm_upd h (X.1 27) (.inr (1, 1, updV (fun i => Value.long (z.2 5 i)) q (Value.long (x))))) := by
  rw [show updV (fun i => Value.long (z.2 5 i)) q (Value.long (x)) = fun i => Value.long (s2 (z.2) 5 q x 5 i) from updV_s (fun y => Value.long (y)) (z.2) 5 q x]
  exact R.upd (t0 := 27) (Or.inl (by omega)) (fun _ h => h) rfl (ct_tag rfl (fun _ => rfl) (fun _ => rfl) (fun _ => rfl) (fun _ => rfl)) R.wP R.wM
theorem Rep.push {n : Nat} (c : mm_C) (R : Rep (u + 1) v X P M z h) (hn : n ≤ 60) : Rep u v X P M z (mm_push h n c) := by
  refine ⟨fun t ht => ?_, R.2.1, ?_, R.2.2.2⟩
  · obtain ⟨h1, h2⟩ := R.1 t ht
    refine ⟨?_, Nat.lt_succ_of_lt h2⟩
    rw [mm_push_ne _ _ _ (Nat.ne_of_lt h2)]
    exact h1
  · obtain ⟨h1, h2⟩ := R.2.2.1
    exact ⟨(show u ≤ h.2.1.1 - 1 by omega), (show 60 * u ≤ h.2.1.2 - n by omega)⟩
end UPD
