section OPS
variable {P : pP} {t v0 : Nat}
theorem pQ_mono {A A' : pP → mm_H → Prop} {o : oO} {r : mm_O × mm_H} (h : pQ A o r) (k : ∀ P h, A P h → A' P h) : pQ A' o r := by
  unfold pQ at *
  split
  · rename_i e
    rw [if_pos e] at h
    exact ⟨h.1, k _ _ h.2⟩
  · rename_i e
    rw [if_neg e] at h
    obtain ⟨a, b, c⟩ := h
    exact ⟨a, b, k _ _ c⟩
def opC (P : pP) (kc : Nat) (as : List Value) (o : oO) : Prop := ∀ (u v : Nat) (X : xX) (M : pP) (z : zZ) (h : mm_H) (d : Nat), Rep (u + 17) (v + 1020) X P M z h → X.2.1 = 0 → Wx (d + 7) kc 0 (lv_args 0 (.ref (X.1 0) :: as)) [] h (pQ (RX u v X M z) o)
def opM (P : pP) (km : Nat) (as : List Value) (m : mO) : Prop := ∀ (u v : Nat) (X : xX) (P' : pP) (z : zZ) (h : mm_H) (d : Nat), Rep u (v + 1020) X P' P z h → Wx (d + 7) km 0 (lv_args 0 (.ref (X.1 8) :: as)) [] h (mQ u v X P' z m)
theorem opC_rp {kc : Nat} {as : List Value} {o : oO} (c : ∀ (u v : Nat) (X : xX) (M : pP) (z : zZ) (h : mm_H) (d : Nat), Rep (u + 17) (v + 1020) X P M z h → X.2.1 = 0 → Wx (d + 7) kc 0 (lv_args 0 (.ref (X.1 0) :: as)) [] h (pQ (RP u v X M z) o)) : opC P kc as o := fun u v X M z h d R h0 => (c u v X M z h d R h0).mono (fun _ e => pQ_mono e (fun _ _ q => RX.of q))
theorem opC_th {kc x : Nat} {as : List Value} (hx : x ≠ 0) (c : ∀ (u v : Nat) (X : xX) (M : pP) (z : zZ) (h : mm_H) (d : Nat), Rep (u + 17) (v + 1020) X P M z h → Wx (d + 7) kc 0 (lv_args 0 (.ref (X.1 0) :: as)) [] h (x_th x (Rep u v X P M z))) : opC P kc as (x, none, P) := fun u v X M z h d R _ => (c u v X M z h d R).mono (fun _ e => pQ_x hx (e.imp fun _ q => ⟨q.1, RX.of q.2⟩))
theorem opC_rd {kc : Nat} {as : List Value} {x : Value} (c : ∀ (u v : Nat) (X : xX) (M : pP) (z : zZ) (h : mm_H) (d : Nat), Rep u v X P M z h → Wx (d + 7) kc 0 (lv_args 0 (.ref (X.1 0) :: as)) [] h (fun r0 => r0 = (.inl (some x), h))) : opC P kc as (0, some x, P) := fun u v X M z h d R _ => (c (u + 17) (v + 1020) X M z h d R).mono (fun r0 e => by
  rw [e]
  exact pQ_0 (RX.of (R.less (by omega) (by omega))))
/-- what a call may answer: a value, or one of these -/
def hoL (a b c e : Nat) (o : oO) : Prop := (o.1 = 0 ∧ ∃ x, o.2.1 = some (.long x)) ∨ (o.1 = a ∧ a ≠ 99) ∨ (o.1 = b ∧ b ≠ 99) ∨ (o.1 = c ∧ c ≠ 99) ∨ (o.1 = e ∧ e ≠ 99)
def hoI (a b c e : Nat) (o : oO) : Prop := (o.1 = 0 ∧ ∃ x, o.2.1 = some (.int x)) ∨ (o.1 = a ∧ a ≠ 99) ∨ (o.1 = b ∧ b ≠ 99) ∨ (o.1 = c ∧ c ≠ 99) ∨ (o.1 = e ∧ e ≠ 99)
def hoN (a b c e : Nat) (o : oO) : Prop := (o.1 = 0 ∧ o.2.1 = none) ∨ (o.1 = a ∧ a ≠ 99) ∨ (o.1 = b ∧ b ≠ 99) ∨ (o.1 = c ∧ c ≠ 99) ∨ (o.1 = e ∧ e ≠ 99)
theorem op_claim (hI : Inv (t + 1) P) (w : wf v0 P) (q : Int32) (n : Int64) : ∃ o : oO, Inv t o.2.2 ∧ hoI 5 8 6 99 o ∧ opC P 1 [.int q, .long n] o ∧ opM P 70 [.int q, .long n] (mo (cd 5 8 6 99) (some (.int 0)) o) := by
  have n60 := w.1
  have a20 := w.2.1
  rcases pk_ix q (n := 8) (by omega) with a | a | ⟨r, hi, rfl⟩
  · exact ⟨(5, none, P), hI.less, Or.inr (Or.inl ⟨rfl, by decide⟩), opC_th (by decide) (fun _ _ _ _ _ _ _ R => c_claimX (R.less (by omega) (by omega)) (Or.inl a) n), fun _ _ _ _ _ _ _ R => k_claimX (R.less (by omega) (by omega)) (Or.inl a) n⟩
  · exact ⟨(5, none, P), hI.less, Or.inr (Or.inl ⟨rfl, by decide⟩), opC_th (by decide) (fun _ _ _ _ _ _ _ R => c_claimX (R.less (by omega) (by omega)) (Or.inr a) n), fun _ _ _ _ _ _ _ R => k_claimX (R.less (by omega) (by omega)) (Or.inr a) n⟩
  · refine ⟨o_claim P r n, inv_claim hI hi n, ?_, fun _ _ _ _ _ _ _ R h0 => c_claim (R.less (by omega) (by omega)) h0 hi (hI.1.2.1 _ (Nat.le_refl _)) n, fun _ _ _ _ _ _ _ R => k_claim (R.less (by omega) (by omega)) hi n⟩
    unfold hoI o_claim
    (repeat' split) <;> simp
theorem op_owes (hI : Inv (t + 1) P) (w : wf v0 P) (q : Int32) (n : Int64) : ∃ o : oO, Inv t o.2.2 ∧ hoL 7 5 6 99 o ∧ opC P 2 [.int q, .long n] o ∧ opM P 71 [.int q, .long n] (mo (cd 7 5 6 99) (some (.long 0)) o) := by
  have n60 := w.1
  have a20 := w.2.1
  rcases pk_ix q (n := pn P) (by omega) with a | a | ⟨i, hi, rfl⟩
  · exact ⟨(7, none, P), hI.less, Or.inr (Or.inl ⟨rfl, by decide⟩), opC_th (by decide) (fun _ _ _ _ _ _ _ R => c_owesX (R.less (by omega) (by omega)) (Or.inl a) n), fun _ _ _ _ _ _ _ R => k_owesX (R.less (by omega) (by omega)) (Or.inl a) n⟩
  · exact ⟨(7, none, P), hI.less, Or.inr (Or.inl ⟨rfl, by decide⟩), opC_th (by decide) (fun _ _ _ _ _ _ _ R => c_owesX (R.less (by omega) (by omega)) (Or.inr a) n), fun _ _ _ _ _ _ _ R => k_owesX (R.less (by omega) (by omega)) (Or.inr a) n⟩
  · refine ⟨o_owes P i n, inv_owes hI hi n60 n, ?_, opC_rp (fun _ _ _ _ _ _ _ R h0 => c_owes (R.less (by omega) (by omega)) hi n), fun _ _ _ _ _ _ _ R => k_owes (R.less (by omega) (by omega)) hi n⟩
    unfold hoL o_owes
    (repeat' split) <;> simp
theorem op_asset (hI : Inv (t + 1) P) (w : wf v0 P) : ∃ o : oO, Inv t o.2.2 ∧ hoI 8 6 99 99 o ∧ opC P 3 [] o ∧ opM P 72 [] (mo (cd 8 6 99 99) (some (.int 0)) o) := by
  have n60 := w.1
  have a20 := w.2.1
  refine ⟨o_asset P, inv_asset hI, ?_, fun _ _ _ _ _ _ _ R h0 => c_asset (R.less (by omega) (by omega)) h0 (hI.1.2.2 _ (Nat.le_refl _)), fun _ _ _ _ _ _ _ R => k_asset (R.less (by omega) (by omega)) (fun _ => hI.1.2.2 _ (Nat.le_refl _))⟩
  unfold hoI o_asset
  (repeat' split) <;> simp
theorem op_sec (hI : Inv (t + 1) P) (w : wf v0 P) (q c : Int32) (n : Int64) : ∃ o : oO, Inv t o.2.2 ∧ hoI 7 5 8 6 o ∧ opC P 4 [.int q, .int c, .long n] o ∧ opM P 73 [.int q, .int c, .long n] (mo (cd 7 5 8 6) (some (.int 0)) o) := by
  have n60 := w.1
  have a20 := w.2.1
  rcases pk_ix q (n := pa P) (by omega) with a | a | ⟨j, hj, rfl⟩
  · exact ⟨(7, none, P), hI.less, Or.inr (Or.inl ⟨rfl, by decide⟩), opC_th (by decide) (fun _ _ _ _ _ _ _ R => c_secureAX (R.less (by omega) (by omega)) (Or.inl a) c n), fun _ _ _ _ _ _ _ R => k_secAX (R.less (by omega) (by omega)) (Or.inl a) c n⟩
  · exact ⟨(7, none, P), hI.less, Or.inr (Or.inl ⟨rfl, by decide⟩), opC_th (by decide) (fun _ _ _ _ _ _ _ R => c_secureAX (R.less (by omega) (by omega)) (Or.inr a) c n), fun _ _ _ _ _ _ _ R => k_secAX (R.less (by omega) (by omega)) (Or.inr a) c n⟩
  · rcases pk_ix c (n := pn P) (by omega) with a | a | ⟨i, hi, rfl⟩
    · exact ⟨(7, none, P), hI.less, Or.inr (Or.inl ⟨rfl, by decide⟩), opC_th (by decide) (fun _ _ _ _ _ _ _ R => c_secureCX (R.less (by omega) (by omega)) hj (Or.inl a) n), fun _ _ _ _ _ _ _ R => k_secCX (R.less (by omega) (by omega)) hj (Or.inl a) n⟩
    · exact ⟨(7, none, P), hI.less, Or.inr (Or.inl ⟨rfl, by decide⟩), opC_th (by decide) (fun _ _ _ _ _ _ _ R => c_secureCX (R.less (by omega) (by omega)) hj (Or.inr a) n), fun _ _ _ _ _ _ _ R => k_secCX (R.less (by omega) (by omega)) hj (Or.inr a) n⟩
    · refine ⟨o_sec P j i n, inv_sec hI w hj hi n, ?_, opC_rp (fun _ _ _ _ _ _ _ R h0 => c_sec (R.less (by omega) (by omega)) hj hi n), fun _ _ _ _ _ _ _ R => k_sec (R.less (by omega) (by omega)) hj hi n⟩
      unfold hoI o_sec
      (repeat' split) <;> simp
theorem op_real (hI : Inv (t + 1) P) (w : wf v0 P) (q : Int32) (n : Int64) : ∃ o : oO, Inv t o.2.2 ∧ hoL 7 5 6 99 o ∧ opC P 5 [.int q, .long n] o ∧ opM P 75 [.int q, .long n] (mo (cd 7 5 6 99) (some (.long 0)) o) := by
  have n60 := w.1
  have a20 := w.2.1
  rcases pk_ix q (n := pa P) (by omega) with a | a | ⟨j, hi, rfl⟩
  · exact ⟨(7, none, P), hI.less, Or.inr (Or.inl ⟨rfl, by decide⟩), opC_th (by decide) (fun _ _ _ _ _ _ _ R => c_realiseX (R.less (by omega) (by omega)) (Or.inl a) n), fun _ _ _ _ _ _ _ R => k_realX (R.less (by omega) (by omega)) (Or.inl a) n⟩
  · exact ⟨(7, none, P), hI.less, Or.inr (Or.inl ⟨rfl, by decide⟩), opC_th (by decide) (fun _ _ _ _ _ _ _ R => c_realiseX (R.less (by omega) (by omega)) (Or.inr a) n), fun _ _ _ _ _ _ _ R => k_realX (R.less (by omega) (by omega)) (Or.inr a) n⟩
  · refine ⟨o_real p_open P j n, by rw [real_eq]; exact inv_real hI w hi n, ?_, opC_rp (fun _ _ _ _ _ _ _ R h0 => c_real (R.less (by omega) (by omega)) hi n), fun _ _ _ _ _ _ _ R => by rw [← real_eq2 hI w hi n]; exact k_real (R.less (by omega) (by omega)) hi n⟩
    unfold hoL o_real
    (repeat' split) <;> simp
theorem op_contest (hI : Inv (t + 1) P) (w : wf v0 P) (q : Int32) : ∃ o : oO, Inv t o.2.2 ∧ hoN 7 6 99 99 o ∧ opC P 6 [.int q] o ∧ opM P 76 [.int q] (mo (cd 7 6 99 99) none o) := by
  have n60 := w.1
  have a20 := w.2.1
  rcases pk_ix q (n := pn P) (by omega) with a | a | ⟨i, hi, rfl⟩
  · exact ⟨(7, none, P), hI.less, Or.inr (Or.inl ⟨rfl, by decide⟩), opC_th (by decide) (fun _ _ _ _ _ _ _ R => c_contestX (R.less (by omega) (by omega)) (Or.inl a)), fun _ _ _ _ _ _ _ R => k_contestX (R.less (by omega) (by omega)) (Or.inl a)⟩
  · exact ⟨(7, none, P), hI.less, Or.inr (Or.inl ⟨rfl, by decide⟩), opC_th (by decide) (fun _ _ _ _ _ _ _ R => c_contestX (R.less (by omega) (by omega)) (Or.inr a)), fun _ _ _ _ _ _ _ R => k_contestX (R.less (by omega) (by omega)) (Or.inr a)⟩
  · refine ⟨o_contest P i, inv_contest hI hi, ?_, opC_rp (fun _ _ _ _ _ _ _ R h0 => c_contest (R.less (by omega) (by omega)) hi), fun _ _ _ _ _ _ _ R => k_contest (R.less (by omega) (by omega)) hi⟩
    unfold hoN o_contest
    (repeat' split) <;> simp
theorem op_settle (hI : Inv (t + 1) P) (w : wf v0 P) (q : Int32) (n : Int64) : ∃ o : oO, Inv t o.2.2 ∧ hoL 7 5 6 99 o ∧ opC P 7 [.int q, .long n] o ∧ opM P 77 [.int q, .long n] (mo (cd 7 5 6 99) (some (.long 0)) o) := by
  have n60 := w.1
  have a20 := w.2.1
  rcases pk_ix q (n := pn P) (by omega) with a | a | ⟨i, hi, rfl⟩
  · exact ⟨(7, none, P), hI.less, Or.inr (Or.inl ⟨rfl, by decide⟩), opC_th (by decide) (fun _ _ _ _ _ _ _ R => c_settleX (R.less (by omega) (by omega)) (Or.inl a) n), fun _ _ _ _ _ _ _ R => k_settleX (R.less (by omega) (by omega)) (Or.inl a) n⟩
  · exact ⟨(7, none, P), hI.less, Or.inr (Or.inl ⟨rfl, by decide⟩), opC_th (by decide) (fun _ _ _ _ _ _ _ R => c_settleX (R.less (by omega) (by omega)) (Or.inr a) n), fun _ _ _ _ _ _ _ R => k_settleX (R.less (by omega) (by omega)) (Or.inr a) n⟩
  · refine ⟨o_settle p_open P i n, inv_settle hI w hi n, ?_, opC_rp (fun _ _ _ _ _ _ _ R h0 => c_settle (R.less (by omega) (by omega)) hi n), fun _ _ _ _ _ _ _ R => by rw [← settle_eq hI w hi n]; exact k_settle (R.less (by omega) (by omega)) hi n⟩
    unfold hoL o_settle
    (repeat' split) <;> simp
theorem op_cost (hI : Inv (t + 1) P) (w : wf v0 P) (n : Int64) : ∃ o : oO, Inv t o.2.2 ∧ hoL 5 6 99 99 o ∧ opC P 8 [.long n] o ∧ opM P 78 [.long n] (mo (cd 5 6 99 99) (some (.long 0)) o) := by
  have n60 := w.1
  have a20 := w.2.1
  refine ⟨o_cost P n, inv_cost hI n, ?_, opC_rp (fun _ _ _ _ _ _ _ R h0 => c_cost (R.less (by omega) (by omega)) n), fun _ _ _ _ _ _ _ R => k_cost (R.less (by omega) (by omega)) n⟩
  unfold hoL o_cost
  (repeat' split) <;> simp
theorem op_div (hI : Inv (t + 1) P) (w : wf v0 P) (q p : Int32) : ∃ o : oO, Inv t o.2.2 ∧ hoL 5 6 8 99 o ∧ opC P 9 [.int q, .int p] o ∧ opM P 81 [.int q, .int p] (mo (cd 5 6 8 99) (some (.long 0)) o) := by
  have n60 := w.1
  have a20 := w.2.1
  rcases pk_ix q (n := 8) (by omega) with a | a | ⟨r, hr, rfl⟩
  · exact ⟨(5, none, P), hI.less, Or.inr (Or.inl ⟨rfl, by decide⟩), opC_th (by decide) (fun _ _ _ _ _ _ _ R => c_divX (R.less (by omega) (by omega)) (Or.inl a) p), fun _ _ _ _ _ _ _ R => k_divX (R.less (by omega) (by omega)) (Or.inl a) p⟩
  · exact ⟨(5, none, P), hI.less, Or.inr (Or.inl ⟨rfl, by decide⟩), opC_th (by decide) (fun _ _ _ _ _ _ _ R => c_divX (R.less (by omega) (by omega)) (Or.inr a) p), fun _ _ _ _ _ _ _ R => k_divX (R.less (by omega) (by omega)) (Or.inr a) p⟩
  · rcases pk_ix p (n := 10001) (by omega) with a | a | ⟨i, hi, rfl⟩
    · exact ⟨(5, none, P), hI.less, Or.inr (Or.inl ⟨rfl, by decide⟩), opC_th (by decide) (fun _ _ _ _ _ _ _ R => c_divPX (R.less (by omega) (by omega)) hr (Or.inl (Int32.lt_trans a (by decide)))), fun _ _ _ _ _ _ _ R => k_divPX (R.less (by omega) (by omega)) hr (Or.inl (Int32.lt_trans a (by decide)))⟩
    · exact ⟨(5, none, P), hI.less, Or.inr (Or.inl ⟨rfl, by decide⟩), opC_th (by decide) (fun _ _ _ _ _ _ _ R => c_divPX (R.less (by omega) (by omega)) hr (Or.inr (Int32.lt_of_lt_of_le (show (10000 : Int32) < nI 10001 by decide) a))), fun _ _ _ _ _ _ _ R => k_divPX (R.less (by omega) (by omega)) hr (Or.inr (Int32.lt_of_lt_of_le (show (10000 : Int32) < nI 10001 by decide) a))⟩
    · by_cases h1 : 1 ≤ i
      · refine ⟨o_div p_open P r i, inv_div hI w (by omega), ?_, opC_rp (fun _ _ _ _ _ _ _ R h0 => c_div (R.less (by omega) (by omega)) hr h1 (by omega)), fun _ _ _ _ _ _ _ R => by
          by_cases e : pI P 4 0 = 0
          · rw [← div_eq hI w r i]; exact k_div (R.less (by omega) (by omega)) hr h1 (by omega) (hI.2 e).cash0
          · exact k_divE (R.less (by omega) (by omega)) hr h1 (by omega) e⟩
        unfold hoL o_div
        (repeat' split) <;> simp
      · exact ⟨(5, none, P), hI.less, Or.inr (Or.inl ⟨rfl, by decide⟩), opC_th (by decide) (fun _ _ _ _ _ _ _ R => c_divPX (R.less (by omega) (by omega)) hr (Or.inl (by rw [show i = 0 by omega]; decide))), fun _ _ _ _ _ _ _ R => k_divPX (R.less (by omega) (by omega)) hr (Or.inl (by rw [show i = 0 by omega]; decide))⟩
theorem op_catch (hI : Inv (t + 1) P) (w : wf v0 P) : ∃ o : oO, Inv t o.2.2 ∧ hoL 6 99 99 99 o ∧ opC P 11 [] o ∧ opM P 84 [] (mo (cd 6 99 99 99) (some (.long 0)) o) := by
  have n60 := w.1
  have a20 := w.2.1
  refine ⟨o_catch p_open P, inv_catch hI w, ?_, opC_rp (fun _ _ _ _ _ _ _ R h0 => c_catch (R.less (by omega) (by omega))), fun _ _ _ _ _ _ _ R => by
    by_cases e : pI P 4 0 = 0
    · rw [← catch_eq hI w]; exact k_catch (R.less (by omega) (by omega)) (hI.2 e).cash0
    · exact k_catchE (R.less (by omega) (by omega)) e⟩
  unfold hoL o_catch
  (repeat' split) <;> simp
theorem op_end (hI : Inv (t + 1) P) (w : wf v0 P) : ∃ o : oO, Inv t o.2.2 ∧ hoL 6 99 99 99 o ∧ opC P 12 [] o ∧ opM P 89 [] (mo (cd 6 99 99 99) (some (.long 0)) o) := by
  have n60 := w.1
  have a20 := w.2.1
  refine ⟨o_end p_open P, inv_end hI, ?_, opC_rp (fun _ _ _ _ _ _ _ R h0 => c_end R h0), fun _ _ _ _ _ _ _ R => k_end (R.less (by omega) (by omega)) hI⟩
  unfold hoL o_end
  (repeat' split) <;> simp
theorem op_greatest (hI : Inv (t + 1) P) (w : wf v0 P) (q : Int32) : ∃ o : oO, Inv t o.2.2 ∧ hoI 5 99 99 99 o ∧ opC P 10 [.int q] o ∧ opM P 83 [.int q] (mo (cd 5 99 99 99) (some (.int 0)) o) := by
  have n60 := w.1
  have a20 := w.2.1
  rcases pk_ix q (n := 8) (by omega) with a | a | ⟨r, hi, rfl⟩
  · exact ⟨(5, none, P), hI.less, Or.inr (Or.inl ⟨rfl, by decide⟩), opC_th (by decide) (fun _ _ _ _ _ _ _ R => c_greatestX (R.less (by omega) (by omega)) (Or.inl a)), fun _ _ _ _ _ _ _ R => k_greatestX (R.less (by omega) (by omega)) (Or.inl a)⟩
  · exact ⟨(5, none, P), hI.less, Or.inr (Or.inl ⟨rfl, by decide⟩), opC_th (by decide) (fun _ _ _ _ _ _ _ R => c_greatestX (R.less (by omega) (by omega)) (Or.inr a)), fun _ _ _ _ _ _ _ R => k_greatestX (R.less (by omega) (by omega)) (Or.inr a)⟩
  · exact ⟨(0, some (.int (p_greatest P r)), P), hI.less, Or.inl ⟨rfl, _, rfl⟩, opC_rd (fun _ _ _ _ _ _ _ R => c_greatest R hi), fun _ _ _ _ _ _ _ R => by rw [← greatest_eq hI w r]; exact k_greatest (R.less (by omega) (by omega)) hi⟩
theorem op_percentage (hI : Inv (t + 1) P) (w : wf v0 P) (q : Int32) : ∃ o : oO, Inv t o.2.2 ∧ hoI 5 99 99 99 o ∧ opC P 14 [.int q] o ∧ opM P 91 [.int q] (mo (cd 5 99 99 99) (some (.int 0)) o) := by
  have n60 := w.1
  have a20 := w.2.1
  rcases pk_ix q (n := 8) (by omega) with a | a | ⟨r, hi, rfl⟩
  · exact ⟨(5, none, P), hI.less, Or.inr (Or.inl ⟨rfl, by decide⟩), opC_th (by decide) (fun _ _ _ _ _ _ _ R => c_percentageX (R.less (by omega) (by omega)) (Or.inl a)), fun _ _ _ _ _ _ _ R => k_percentageX (R.less (by omega) (by omega)) (Or.inl a)⟩
  · exact ⟨(5, none, P), hI.less, Or.inr (Or.inl ⟨rfl, by decide⟩), opC_th (by decide) (fun _ _ _ _ _ _ _ R => c_percentageX (R.less (by omega) (by omega)) (Or.inr a)), fun _ _ _ _ _ _ _ R => k_percentageX (R.less (by omega) (by omega)) (Or.inr a)⟩
  · exact ⟨(0, some (.int (nI (pN P 3 r))), P), hI.less, Or.inl ⟨rfl, _, rfl⟩, opC_rd (fun _ _ _ _ _ _ _ R => c_percentage R hi), fun _ _ _ _ _ _ _ R => k_percentage (R.less (by omega) (by omega)) hi⟩
theorem nI_10 {c : Int32} (h : ¬ (c.toInt < 0 ∨ 9 < c.toInt)) : ∃ j, j < 10 ∧ c = nI j := by
  rcases pk_ix c (n := 10) (by omega) with a | a | a
  · rw [Int32.lt_iff_toInt_lt, show (0 : Int32).toInt = 0 from by decide] at a; omega
  · rw [Int32.le_iff_toInt_le, nI_toInt (by omega)] at a; omega
  · exact a
theorem nI_3 {c : Int32} (h : ¬ (c.toInt < 0 ∨ 2 < c.toInt)) : ∃ j, j < 3 ∧ c = nI j := by
  rcases pk_ix c (n := 3) (by omega) with a | a | a
  · rw [Int32.lt_iff_toInt_lt, show (0 : Int32).toInt = 0 from by decide] at a; omega
  · rw [Int32.le_iff_toInt_le, nI_toInt (by omega)] at a; omega
  · exact a
theorem keeps_n {q : Int32} (h : p_keeps P q = true) : ∃ e, e < 3000 ∧ q = nI e := by
  rcases pk_ix q (n := 3000) (by omega) with a | a | a
  · unfold p_keeps at h; rw [decide_eq_true a] at h; cases h
  · unfold p_keeps at h; rw [decide_eq_true (show (3000 : Int32) ≤ q from a)] at h; simp at h
  · exact a
theorem op_told (hI : Inv (t + 1) P) (w : wf v0 P) (q c : Int32) : ∃ o : oO, Inv t o.2.2 ∧ hoL 7 5 99 99 o ∧ opC P 13 [.int q, .int c] o ∧ opM P 90 [.int q, .int c] (mo (cd 7 5 99 99) (some (.long 0)) o) := by
  have n60 := w.1
  have a20 := w.2.1
  rcases pk_ix q (n := pn P) (by omega) with a | a | ⟨i, hi, rfl⟩
  · exact ⟨(7, none, P), hI.less, Or.inr (Or.inl ⟨rfl, by decide⟩), opC_th (by decide) (fun _ _ _ _ _ _ _ R => c_toldX (R.less (by omega) (by omega)) (Or.inl a) c), fun _ _ _ _ _ _ _ R => k_toldX (R.less (by omega) (by omega)) (Or.inl a) c⟩
  · exact ⟨(7, none, P), hI.less, Or.inr (Or.inl ⟨rfl, by decide⟩), opC_th (by decide) (fun _ _ _ _ _ _ _ R => c_toldX (R.less (by omega) (by omega)) (Or.inr a) c), fun _ _ _ _ _ _ _ R => k_toldX (R.less (by omega) (by omega)) (Or.inr a) c⟩
  · by_cases hw : c.toInt < 0 ∨ 9 < c.toInt
    · exact ⟨(5, none, P), hI.less, Or.inr (Or.inr (Or.inl ⟨rfl, by decide⟩)), opC_th (by decide) (fun _ _ _ _ _ _ _ R => c_toldW (R.less (by omega) (by omega)) hi hw), fun _ _ _ _ _ _ _ R => k_toldW (R.less (by omega) (by omega)) hi hw⟩
    · obtain ⟨j, hj, rfl⟩ := nI_10 hw
      have hj : j = 0 ∨ j = 1 ∨ j = 2 ∨ j = 3 ∨ j = 4 ∨ j = 5 ∨ j = 6 ∨ j = 7 ∨ j = 8 ∨ j = 9 := by omega
      rcases hj with rfl | rfl | rfl | rfl | rfl | rfl | rfl | rfl | rfl | rfl
      · exact ⟨(0, some (.long ((nI (pN P 0 i)).toInt64)), P), hI.less, Or.inl ⟨rfl, _, rfl⟩, opC_rd (fun _ _ _ _ _ _ _ R => c_told0 R hi), fun _ _ _ _ _ _ _ R => k_told0 (R.less (by omega) (by omega)) hi⟩
      · exact ⟨(0, some (.long ((pI P 0 i).toInt64)), P), hI.less, Or.inl ⟨rfl, _, rfl⟩, opC_rd (fun _ _ _ _ _ _ _ R => c_told1 R hi), fun _ _ _ _ _ _ _ R => k_told1 (R.less (by omega) (by omega)) hi⟩
      · exact ⟨(0, some (.long (pL P 0 i)), P), hI.less, Or.inl ⟨rfl, _, rfl⟩, opC_rd (fun _ _ _ _ _ _ _ R => c_told2 R hi), fun _ _ _ _ _ _ _ R => k_told2 (R.less (by omega) (by omega)) hi⟩
      · exact ⟨(0, some (.long (pL P 1 i)), P), hI.less, Or.inl ⟨rfl, _, rfl⟩, opC_rd (fun _ _ _ _ _ _ _ R => c_told3 R hi), fun _ _ _ _ _ _ _ R => k_told3 (R.less (by omega) (by omega)) hi⟩
      · exact ⟨(0, some (.long (pL P 2 i)), P), hI.less, Or.inl ⟨rfl, _, rfl⟩, opC_rd (fun _ _ _ _ _ _ _ R => c_told4 R hi), fun _ _ _ _ _ _ _ R => k_told4 (R.less (by omega) (by omega)) hi⟩
      · exact ⟨(0, some (.long (pL P 3 i)), P), hI.less, Or.inl ⟨rfl, _, rfl⟩, opC_rd (fun _ _ _ _ _ _ _ R => c_told5 R hi), fun _ _ _ _ _ _ _ R => k_told5 (R.less (by omega) (by omega)) hi⟩
      · exact ⟨(0, some (.long (pL P 4 i)), P), hI.less, Or.inl ⟨rfl, _, rfl⟩, opC_rd (fun _ _ _ _ _ _ _ R => c_told6 R hi), fun _ _ _ _ _ _ _ R => k_told6 (R.less (by omega) (by omega)) hi⟩
      · exact ⟨(0, some (.long (p_net P i)), P), hI.less, Or.inl ⟨rfl, _, rfl⟩, opC_rd (fun _ _ _ _ _ _ _ R => c_told7 R hi), fun _ _ _ _ _ _ _ R => k_told7 (R.less (by omega) (by omega)) hi⟩
      · exact ⟨(0, some (.long (p_dueOf P i)), P), hI.less, Or.inl ⟨rfl, _, rfl⟩, opC_rd (fun _ _ _ _ _ _ _ R => c_told8 R hi), fun _ _ _ _ _ _ _ R => k_told8 (R.less (by omega) (by omega)) hi⟩
      · exact ⟨(0, some (.long (cond (p_open P i) 1 0)), P), hI.less, Or.inl ⟨rfl, _, rfl⟩, opC_rd (fun _ _ _ _ _ _ _ R => c_told9 R hi), fun _ _ _ _ _ _ _ R => by have e := open_eq hI.1.1 w i; rw [← e]; exact k_told9 (R.less (by omega) (by omega)) hi⟩
theorem op_entry (hI : Inv (t + 1) P) (w : wf v0 P) (q c : Int32) : ∃ o : oO, Inv t o.2.2 ∧ hoL 7 5 99 99 o ∧ opC P 17 [.int q, .int c] o ∧ opM P 94 [.int q, .int c] (mo (cd 7 5 99 99) (some (.long 0)) o) := by
  have n60 := w.1
  have a20 := w.2.1
  cases hk : p_keeps P q with
  | false => exact ⟨(7, none, P), hI.less, Or.inr (Or.inl ⟨rfl, by decide⟩), opC_th (by decide) (fun _ _ _ _ _ _ _ R => c_entryX (R.less (by omega) (by omega)) hk c), fun _ _ _ _ _ _ _ R => k_entryX (R.less (by omega) (by omega)) hk c⟩
  | true =>
    obtain ⟨e, he, rfl⟩ := keeps_n hk
    by_cases hw : c.toInt < 0 ∨ 2 < c.toInt
    · exact ⟨(5, none, P), hI.less, Or.inr (Or.inr (Or.inl ⟨rfl, by decide⟩)), opC_th (by decide) (fun _ _ _ _ _ _ _ R => c_entryW (R.less (by omega) (by omega)) he hk hw), fun _ _ _ _ _ _ _ R => k_entryW (R.less (by omega) (by omega)) he hk hw⟩
    · obtain ⟨j, hj, rfl⟩ := nI_3 hw
      have hj : j = 0 ∨ j = 1 ∨ j = 2 := by omega
      rcases hj with rfl | rfl | rfl
      · exact ⟨(0, some (.long ((pI P 2 e).toInt64)), P), hI.less, Or.inl ⟨rfl, _, rfl⟩, opC_rd (fun _ _ _ _ _ _ _ R => c_entry0 R he hk), fun _ _ _ _ _ _ _ R => k_entry0 (R.less (by omega) (by omega)) he hk⟩
      · exact ⟨(0, some (.long ((pI P 3 e).toInt64)), P), hI.less, Or.inl ⟨rfl, _, rfl⟩, opC_rd (fun _ _ _ _ _ _ _ R => c_entry1 R he hk), fun _ _ _ _ _ _ _ R => k_entry1 (R.less (by omega) (by omega)) he hk⟩
      · exact ⟨(0, some (.long (pL P 6 e)), P), hI.less, Or.inl ⟨rfl, _, rfl⟩, opC_rd (fun _ _ _ _ _ _ _ R => c_entry2 R he hk), fun _ _ _ _ _ _ _ R => k_entry2 (R.less (by omega) (by omega)) he hk⟩
end OPS
