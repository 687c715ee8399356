/-! RULES for runs of the mini machine: 'Wx .. Q': the run from here ends, and Q holds of what it answers -/
theorem mm_exec_mono : ∀ (n d k pc : Nat) (lv : mm_L) (st : List Value) (h : mm_H) (r : mm_O × mm_H), mm_exec n d k pc lv st h = some r → mm_exec (n + 1) d k pc lv st h = some r := by
  intro n
  induction n with
  | zero => intro d k pc lv st h r hx; cases hx
  | succ n ih =>
    intro d k pc lv st h r hx
    unfold mm_exec at hx
    unfold mm_exec
    cases hc : t_cod k pc with
    | none => rw [hc] at hx; cases hx
    | some q =>
      obtain ⟨i, len⟩ := q
      rw [hc] at hx
      dsimp only at hx ⊢
      cases hs : mm_step k d i len pc lv st h with
      | some q =>
        obtain ⟨pc', lv', st', h'⟩ := q
        rw [hs] at hx
        dsimp only at hx ⊢
        exact ih _ _ _ _ _ _ _ hx
      | none =>
        rw [hs] at hx
        dsimp only at hx ⊢
        cases hr : mm_ret (t_rt k) i len st with
        | some v => rw [hr] at hx; exact hx
        | none =>
          rw [hr] at hx
          dsimp only at hx ⊢
          cases ht : mm_thr k d pc i len st h with
          | some q => rw [ht] at hx; exact hx
          | none =>
            rw [ht] at hx
            dsimp only at hx ⊢
            cases hv : mm_inv k i len st h with
            | none => rw [hv] at hx; cases hx
            | some q =>
              obtain ⟨k', as, rest⟩ := q
              rw [hv] at hx
              dsimp only at hx ⊢
              cases d with
              | zero => cases hx
              | succ d' =>
                dsimp only at hx ⊢
                cases hcal : mm_exec n d' k' 0 (lv_args 0 as) [] h with
                | none => rw [hcal] at hx; cases hx
                | some q =>
                  rw [ih _ _ _ _ _ _ _ hcal]
                  rw [hcal] at hx
                  obtain ⟨o, h'⟩ := q
                  cases o with
                  | inl v =>
                    dsimp only at hx ⊢
                    exact ih _ _ _ _ _ _ _ hx
                  | inr x =>
                    dsimp only at hx ⊢
                    cases hf : mm_find (t_hx k) pc x.1 with
                    | some pc' =>
                      rw [hf] at hx
                      dsimp only at hx ⊢
                      exact ih _ _ _ _ _ _ _ hx
                    | none => rw [hf] at hx; exact hx
theorem mm_exec_le {n n' d k pc : Nat} {lv : mm_L} {st : List Value} {h : mm_H} {r : mm_O × mm_H} (hn : n ≤ n') (hx : mm_exec n d k pc lv st h = some r) : mm_exec n' d k pc lv st h = some r := by
  obtain ⟨j, rfl⟩ := Nat.exists_eq_add_of_le hn
  clear hn
  induction j with
  | zero => exact hx
  | succ j ih => exact mm_exec_mono _ _ _ _ _ _ _ _ ih
def Wx (d k pc : Nat) (lv : mm_L) (st : List Value) (h : mm_H) (Q : mm_O × mm_H → Prop) : Prop := ∃ n r, mm_exec n d k pc lv st h = some r ∧ Q r
section WX
variable {d k pc : Nat} {lv lv' : mm_L} {st st' : List Value} {h h' : mm_H} {Q Q' : mm_O × mm_H → Prop} {i : Instr} {len pc' : Nat}
theorem Wx.mono (w : Wx d k pc lv st h Q) (hq : ∀ r, Q r → Q' r) : Wx d k pc lv st h Q' := by
  obtain ⟨n, r, h1, h2⟩ := w
  exact ⟨n, r, h1, hq r h2⟩
theorem x_step (hc : t_cod k pc = some (i, len)) (hs : mm_step k d i len pc lv st h = some (pc', lv', st', h')) (w : Wx d k pc' lv' st' h' Q) : Wx d k pc lv st h Q := by
  obtain ⟨n, r, h1, h2⟩ := w
  refine ⟨n + 1, r, ?_, h2⟩
  unfold mm_exec
  rw [hc]
  dsimp only
  rw [hs]
  exact h1
theorem x_if {c : Prop} [Decidable c] {t : Nat} (hc : t_cod k pc = some (i, 3)) (hs : mm_step k d i 3 pc lv st h = some (cond (decide c) t (pc + 3), lv, st', h)) (kt : c → Wx d k t lv st' h Q) (kf : ¬ c → Wx d k (pc + 3) lv st' h Q) : Wx d k pc lv st h Q := by
  by_cases hq : c
  · rw [decide_eq_true hq] at hs
    exact x_step hc hs (kt hq)
  · rw [decide_eq_false hq] at hs
    exact x_step hc hs (kf hq)
theorem x_ret {v : Option Value} (hc : t_cod k pc = some (i, len)) (hs : mm_step k d i len pc lv st h = none) (hr : mm_ret (t_rt k) i len st = some v) (hq : Q (.inl v, h)) : Wx d k pc lv st h Q := by
  refine ⟨1, _, ?_, hq⟩
  unfold mm_exec
  rw [hc]
  dsimp only
  rw [hs]
  dsimp only
  rw [hr]
theorem x_thr {x : Nat} (hc : t_cod k pc = some (i, len)) (hs : mm_step k d i len pc lv st h = none) (hr : mm_ret (t_rt k) i len st = none) (ht : mm_thr k d pc i len st h = some (x, h')) (hq : Q (.inr (x, h.1), h')) : Wx d k pc lv st h Q := by
  refine ⟨1, _, ?_, hq⟩
  unfold mm_exec
  rw [hc]
  dsimp only
  rw [hs]
  dsimp only
  rw [hr]
  dsimp only
  rw [ht]
/-- behind a call: it returned, or it threw and is caught here, or goes on up -/
def x_back (d k pc : Nat) (lv : mm_L) (rest : List Value) (Q : mm_O × mm_H → Prop) (r : mm_O × mm_H) : Prop := match r.1 with
  | .inl v => Wx d k (pc + 3) lv (v.toList ++ rest) r.2 Q
  | .inr x => match mm_find (t_hx k) pc x.1 with
    | some pc' => Wx d k pc' lv [.ref x.2] r.2 Q
    | none => (t_hh k).length = 0 ∧ Q r
theorem x_call {k' : Nat} {as rest : List Value} (hc : t_cod k pc = some (i, 3)) (hs : mm_step k (d + 1) i 3 pc lv st h = none) (hr : mm_ret (t_rt k) i 3 st = none) (ht : mm_thr k (d + 1) pc i 3 st h = none) (hv : mm_inv k i 3 st h = some (k', as, rest))
    (w : Wx d k' 0 (lv_args 0 as) [] h (x_back (d + 1) k pc lv rest Q)) : Wx (d + 1) k pc lv st h Q := by
  obtain ⟨n, ⟨o, h1⟩, h2, h3⟩ := w
  cases o with
  | inl v =>
    obtain ⟨n2, r2, h4, h5⟩ := (show Wx (d + 1) k (pc + 3) lv (v.toList ++ rest) h1 Q from h3)
    refine ⟨n + n2 + 1, r2, ?_, h5⟩
    unfold mm_exec
    rw [hc]
    dsimp only
    rw [hs]
    dsimp only
    rw [hr]
    dsimp only
    rw [ht]
    dsimp only
    rw [hv]
    dsimp only
    rw [mm_exec_le (Nat.le_add_right n n2) h2]
    dsimp only
    exact mm_exec_le (Nat.le_add_left n2 n) h4
  | inr x =>
    have h6 : (match mm_find (t_hx k) pc x.1 with | some pc' => Wx (d + 1) k pc' lv [.ref x.2] h1 Q | none => (t_hh k).length = 0 ∧ Q (.inr x, h1)) := h3
    cases hf : mm_find (t_hx k) pc x.1 with
    | some pc' =>
      rw [hf] at h6
      obtain ⟨n2, r2, h4, h5⟩ := h6
      refine ⟨n + n2 + 1, r2, ?_, h5⟩
      unfold mm_exec
      rw [hc]
      dsimp only
      rw [hs]
      dsimp only
      rw [hr]
      dsimp only
      rw [ht]
      dsimp only
      rw [hv]
      dsimp only
      rw [mm_exec_le (Nat.le_add_right n n2) h2]
      dsimp only
      rw [hf]
      dsimp only
      exact mm_exec_le (Nat.le_add_left n2 n) h4
    | none =>
      rw [hf] at h6
      refine ⟨n + 1, _, ?_, h6.2⟩
      unfold mm_exec
      rw [hc]
      dsimp only
      rw [hs]
      dsimp only
      rw [hr]
      dsimp only
      rw [ht]
      dsimp only
      rw [hv]
      dsimp only
      rw [h2]
      dsimp only
      rw [hf]
      dsimp only
      rw [h6.1]
      rfl
/-- instructions that touch neither heap nor a condition, as many as there are (at most n) -/
def mm_pure1 (k : Nat) (i : Instr) (len pc : Nat) (lv : mm_L) (st : List Value) : Option (Nat × mm_L × List Value) :=
  match mm_load lv i len with
  | some v => some (pc + len, lv, v :: st)
  | none => match mm_store (t_nl k) lv i len st with
    | some (lv', st') => some (pc + len, lv', st')
    | none => match mm_arith i len st with
      | some st' => some (pc + len, lv, st')
      | none => match mm_stack i len st with
        | some st' => some (pc + len, lv, st')
        | none => match i, len with
          | .goto off, 3 => (mm_tgt pc off).map (fun t => (t, lv, st))
          | _, _ => none
def mm_run (k : Nat) : Nat → Nat → mm_L → List Value → Nat × mm_L × List Value
  | 0, pc, lv, st => (pc, lv, st)
  | n + 1, pc, lv, st => match t_cod k pc with
    | none => (pc, lv, st)
    | some (i, len) => match mm_pure1 k i len pc lv st with
      | some (pc', lv', st') => mm_run k n pc' lv' st'
      | none => (pc, lv, st)
theorem mm_pure1_step (hp : mm_pure1 k i len pc lv st = some (pc', lv', st')) : mm_step k d i len pc lv st h = some (pc', lv', st', h) := by
  unfold mm_pure1 at hp
  unfold mm_step
  cases h1 : mm_load lv i len with
  | some v => rw [h1] at hp; cases hp; rfl
  | none =>
    rw [h1] at hp
    dsimp only at hp ⊢
    cases h2 : mm_store (t_nl k) lv i len st with
    | some q => rw [h2] at hp; cases hp; rfl
    | none =>
      rw [h2] at hp
      dsimp only at hp ⊢
      cases h3 : mm_arith i len st with
      | some q => rw [h3] at hp; cases hp; rfl
      | none =>
        rw [h3] at hp
        dsimp only at hp ⊢
        cases h4 : mm_stack i len st with
        | some q => rw [h4] at hp; cases hp; rfl
        | none =>
          rw [h4] at hp
          dsimp only at hp ⊢
          split at hp
          · rename_i off
            have h5 : mm_jump pc (.goto off) 3 st = (mm_tgt pc off).map (fun t => (t, st)) := by cases st <;> rfl
            rw [h5]
            cases ht : mm_tgt pc off with
            | none => rw [ht] at hp; cases hp
            | some t => rw [ht] at hp; cases hp; rfl
          · cases hp
theorem x_run (n : Nat) (hr : mm_run k n pc lv st = (pc', lv', st')) (w : Wx d k pc' lv' st' h Q) : Wx d k pc lv st h Q := by
  induction n generalizing pc lv st with
  | zero => cases hr; exact w
  | succ n ih =>
    unfold mm_run at hr
    cases hc : t_cod k pc with
    | none => rw [hc] at hr; cases hr; exact w
    | some q =>
      obtain ⟨i, len⟩ := q
      rw [hc] at hr
      dsimp only at hr
      cases hp : mm_pure1 k i len pc lv st with
      | none => rw [hp] at hr; cases hr; exact w
      | some q =>
        obtain ⟨pc2, lv2, st2⟩ := q
        rw [hp] at hr
        dsimp only at hr
        exact x_step hc (mm_pure1_step hp) (ih hr)
end WX
