/-! rules for calls by contract, for comparisons of longs -/
section WX3
variable {d k pc : Nat} {lv : mm_L} {st rest as : List Value} {h : mm_H} {Q : mm_O × mm_H → Prop} {idx k' np b ci t x pc' : Nat} {fs : List Value} {v : Value} {r : List Value} {i : Instr} {off : Int} {A : mm_H → Prop}
theorem x_virt (hm : t_mth (t_o k) idx = some (k', np, 1)) (hsp : mm_split np st = some (as, .ref b :: rest)) (hb : h.2.2 b = some (.inl (ci, fs))) (hg : (Nat.beq ci (t_rc k') && (Nat.ble (mm_w rest) 12 && Nat.ble (lg_sl (.ref b :: as)).length (t_nl k'))) = true) :
    mm_inv k (.invokevirtual idx) 3 st h = some (k', .ref b :: as, rest) := by
  simp only [mm_inv, hm, hsp, hb, hg, cond_true]
/-- what a call instruction must be for the rules below -/
def x_is (d k pc : Nat) (lv : mm_L) (st : List Value) (h : mm_H) (k' : Nat) (as rest : List Value) : Prop := ∃ i, t_cod k pc = some (i, 3) ∧ mm_step k (d + 1) i 3 pc lv st h = none ∧ mm_ret (t_rt k) i 3 st = none ∧ mm_thr k (d + 1) pc i 3 st h = none ∧ mm_inv k i 3 st h = some (k', as, rest)
theorem x_isV (hc : t_cod k pc = some (.invokevirtual idx, 3)) (hm : t_mth (t_o k) idx = some (k', np, 1)) (hsp : mm_split np st = some (as, .ref b :: rest)) (hb : h.2.2 b = some (.inl (ci, fs))) (hg : (Nat.beq ci (t_rc k') && (Nat.ble (mm_w rest) 12 && Nat.ble (lg_sl (.ref b :: as)).length (t_nl k'))) = true) : x_is d k pc lv st h k' (.ref b :: as) rest := by
  refine ⟨_, hc, ?_, ?_, ?_, x_virt hm hsp hb hg⟩
  · rfl
  · unfold mm_ret
    split <;> first | rfl | contradiction
  · rfl
theorem x_isS (hc : t_cod k pc = some (.invokestatic idx, 3)) (hs : mm_step k (d + 1) (.invokestatic idx) 3 pc lv st h = none) (hm : t_mth (t_o k) idx = some (k', np, 0)) (hsp : mm_split np st = some (as, rest)) (hg : (Nat.ble (mm_w rest) 12 && Nat.ble (lg_sl as).length (t_nl k')) = true) : x_is d k pc lv st h k' as rest := by
  refine ⟨_, hc, hs, ?_, ?_, ?_⟩
  · unfold mm_ret
    split <;> first | rfl | contradiction
  · rfl
  · simp only [mm_inv, hm, hsp, hg, cond_true]
theorem x_isI (hc : t_cod k pc = some (.invokespecial idx, 3)) (hs : mm_step k (d + 1) (.invokespecial idx) 3 pc lv st h = none) (hm : t_mth (t_o k) idx = some (k', np, 2)) (hsp : mm_split np st = some (as, .ref b :: rest)) (hg : (Nat.ble (mm_w rest) 12 && Nat.ble (lg_sl (.ref b :: as)).length (t_nl k')) = true) : x_is d k pc lv st h k' (.ref b :: as) rest := by
  refine ⟨_, hc, hs, ?_, ?_, ?_⟩
  · unfold mm_ret
    split <;> first | rfl | contradiction
  · rfl
  · simp only [mm_inv, hm, hsp, hg, cond_true]
theorem x_do {Q1 : mm_O × mm_H → Prop} (hi : x_is d k pc lv st h k' as rest) (w : Wx d k' 0 (lv_args 0 as) [] h Q1) (kk : ∀ r, Q1 r → x_back (d + 1) k pc lv rest Q r) : Wx (d + 1) k pc lv st h Q := by
  obtain ⟨i, h1, h2, h3, h4, h5⟩ := hi
  exact x_call h1 h2 h3 h4 h5 (w.mono kk)
/-- a reader: the heap stays -/
theorem x_rd (hi : x_is d k pc lv st h k' as rest) (w : Wx d k' 0 (lv_args 0 as) [] h (fun r => r = (.inl (some v), h))) (kk : Wx (d + 1) k (pc + 3) lv (v :: rest) h Q) : Wx (d + 1) k pc lv st h Q :=
  x_do hi w (fun r e => by subst e; exact kk)
theorem x_rd0 (hi : x_is d k pc lv st h k' as rest) (w : Wx d k' 0 (lv_args 0 as) [] h (fun r => r = (.inl none, h))) (kk : Wx (d + 1) k (pc + 3) lv rest h Q) : Wx (d + 1) k pc lv st h Q :=
  x_do hi w (fun r e => by subst e; exact kk)
/-- a writer -/
theorem x_wr (hi : x_is d k pc lv st h k' as rest) (w : Wx d k' 0 (lv_args 0 as) [] h (fun r => r.1 = .inl (some v) ∧ A r.2)) (kk : ∀ h', A h' → Wx (d + 1) k (pc + 3) lv (v :: rest) h' Q) : Wx (d + 1) k pc lv st h Q :=
  x_do hi w (fun r e => by obtain ⟨o, h'⟩ := r; obtain ⟨e1, e2⟩ := e; cases e1; exact kk h' e2)
theorem x_wr0 (hi : x_is d k pc lv st h k' as rest) (w : Wx d k' 0 (lv_args 0 as) [] h (fun r => r.1 = .inl none ∧ A r.2)) (kk : ∀ h', A h' → Wx (d + 1) k (pc + 3) lv rest h' Q) : Wx (d + 1) k pc lv st h Q :=
  x_do hi w (fun r e => by obtain ⟨o, h'⟩ := r; obtain ⟨e1, e2⟩ := e; cases e1; exact kk h' e2)
/-- a call that throws, not caught here -/
def x_th (x : Nat) (A : mm_H → Prop) (r : mm_O × mm_H) : Prop := ∃ a, r.1 = .inr (x, a) ∧ A r.2
theorem x_up (hi : x_is d k pc lv st h k' as rest) (hh : (t_hh k).length = 0) (w : Wx d k' 0 (lv_args 0 as) [] h (x_th x A)) (kk : ∀ r, x_th x A r → Q r) : Wx (d + 1) k pc lv st h Q :=
  x_do hi w (fun r e => by
    have e0 := e
    obtain ⟨o, h'⟩ := r
    obtain ⟨a, e1, e2⟩ := e
    cases e1
    have h0 : t_hx k = [] := by unfold t_hx; rw [List.eq_nil_of_length_eq_zero hh]; rfl
    show (match mm_find (t_hx k) pc x with | some pc' => _ | none => (t_hh k).length = 0 ∧ Q (.inr (x, a), h'))
    rw [h0]
    exact ⟨hh, kk _ e0⟩)
theorem x_ca (hi : x_is d k pc lv st h k' as rest) (hf : mm_find (t_hx k) pc x = some pc') (w : Wx d k' 0 (lv_args 0 as) [] h (x_th x A)) (kk : ∀ a h', A h' → Wx (d + 1) k pc' lv [.ref a] h' Q) : Wx (d + 1) k pc lv st h Q :=
  x_do hi w (fun r e => by
    obtain ⟨o, h'⟩ := r
    obtain ⟨a, e1, e2⟩ := e
    cases e1
    show (match mm_find (t_hx k) pc x with | some pc' => Wx (d + 1) k pc' lv [.ref a] h' Q | none => _)
    rw [hf]
    exact kk a h' e2)
theorem x_lif {c : Prop} {x y : Int64} (hc : t_cod k pc = some (.lcmp, 1)) (w : Wx d k (pc + 1) lv (.int (lg_cmp x y) :: r) h Q) : Wx d k pc lv (.long y :: .long x :: r) h Q := x_step hc rfl w
theorem x_leq {x y : Int64} (hc : t_cod k pc = some (.lcmp, 1)) (hc2 : t_cod k (pc + 1) = some (.ifCond .eq off, 3)) (ht : mm_tgt (pc + 1) off = some t) (kt : x = y → Wx d k t lv r h Q) (kf : ¬ x = y → Wx d k (pc + 4) lv r h Q) : Wx d k pc lv (.long y :: .long x :: r) h Q :=
  x_step hc rfl (x_if (c := lg_cmp x y = 0) (t := t) hc2 (by simp only [mm_step, mm_load, mm_store, mm_arith, mm_stack, mm_jump, mm_br, ht, Option.map_some]) (fun q => kt ((lg_cmp_eq x y).mp q)) (fun q => kf (fun e => q ((lg_cmp_eq x y).mpr e))))
theorem x_lne {x y : Int64} (hc : t_cod k pc = some (.lcmp, 1)) (hc2 : t_cod k (pc + 1) = some (.ifCond .ne off, 3)) (ht : mm_tgt (pc + 1) off = some t) (kt : ¬ x = y → Wx d k t lv r h Q) (kf : x = y → Wx d k (pc + 4) lv r h Q) : Wx d k pc lv (.long y :: .long x :: r) h Q :=
  x_step hc rfl (x_if (c := ¬ lg_cmp x y = 0) (t := t) hc2 (by simp only [mm_step, mm_load, mm_store, mm_arith, mm_stack, mm_jump, mm_br, ht, Option.map_some]) (fun q => kt (fun e => q ((lg_cmp_eq x y).mpr e))) (fun q => kf ((lg_cmp_eq x y).mp (Classical.not_not.mp q))))
theorem x_llt {x y : Int64} (hc : t_cod k pc = some (.lcmp, 1)) (hc2 : t_cod k (pc + 1) = some (.ifCond .lt off, 3)) (ht : mm_tgt (pc + 1) off = some t) (kt : x < y → Wx d k t lv r h Q) (kf : ¬ x < y → Wx d k (pc + 4) lv r h Q) : Wx d k pc lv (.long y :: .long x :: r) h Q :=
  x_step hc rfl (x_if (c := lg_cmp x y < 0) (t := t) hc2 (by simp only [mm_step, mm_load, mm_store, mm_arith, mm_stack, mm_jump, mm_br, ht, Option.map_some]) (fun q => kt ((lg_cmp_lt x y).mp q)) (fun q => kf (fun e => q ((lg_cmp_lt x y).mpr e))))
theorem x_lle {x y : Int64} (hc : t_cod k pc = some (.lcmp, 1)) (hc2 : t_cod k (pc + 1) = some (.ifCond .le off, 3)) (ht : mm_tgt (pc + 1) off = some t) (kt : x ≤ y → Wx d k t lv r h Q) (kf : ¬ x ≤ y → Wx d k (pc + 4) lv r h Q) : Wx d k pc lv (.long y :: .long x :: r) h Q :=
  x_step hc rfl (x_if (c := lg_cmp x y ≤ 0) (t := t) hc2 (by simp only [mm_step, mm_load, mm_store, mm_arith, mm_stack, mm_jump, mm_br, ht, Option.map_some]) (fun q => kt ((lg_cmp_le x y).mp q)) (fun q => kf (fun e => q ((lg_cmp_le x y).mpr e))))
theorem x_lgt {x y : Int64} (hc : t_cod k pc = some (.lcmp, 1)) (hc2 : t_cod k (pc + 1) = some (.ifCond .gt off, 3)) (ht : mm_tgt (pc + 1) off = some t) (kt : y < x → Wx d k t lv r h Q) (kf : ¬ y < x → Wx d k (pc + 4) lv r h Q) : Wx d k pc lv (.long y :: .long x :: r) h Q :=
  x_step hc rfl (x_if (c := 0 < lg_cmp x y) (t := t) hc2 (by simp only [mm_step, mm_load, mm_store, mm_arith, mm_stack, mm_jump, mm_br, ht, Option.map_some]) (fun q => kt ((lg_cmp_gt x y).mp q)) (fun q => kf (fun e => q ((lg_cmp_gt x y).mpr e))))
theorem x_lge {x y : Int64} (hc : t_cod k pc = some (.lcmp, 1)) (hc2 : t_cod k (pc + 1) = some (.ifCond .ge off, 3)) (ht : mm_tgt (pc + 1) off = some t) (kt : y ≤ x → Wx d k t lv r h Q) (kf : ¬ y ≤ x → Wx d k (pc + 4) lv r h Q) : Wx d k pc lv (.long y :: .long x :: r) h Q :=
  x_step hc rfl (x_if (c := 0 ≤ lg_cmp x y) (t := t) hc2 (by simp only [mm_step, mm_load, mm_store, mm_arith, mm_stack, mm_jump, mm_br, ht, Option.map_some]) (fun q => kt ((lg_cmp_ge x y).mp q)) (fun q => kf (fun e => q ((lg_cmp_ge x y).mpr e))))
end WX3
