/-! a run does not mind more known locals, nor their order -/
def nd_has (i : Nat) : mm_L → Bool
  | [] => false
  | (j, _) :: r => Nat.beq j i || nd_has i r
def nd : mm_L → Bool
  | [] => true
  | (j, _) :: r => !nd_has j r && nd r
def subL : mm_L → mm_L → Prop
  | [], _ => True
  | q :: r, l => mm_get l q.1 = some q.2 ∧ subL r l
def mm_K (a b : mm_L) : Prop := nd a = true ∧ nd b = true ∧ ∀ i v, mm_get a i = some v → mm_get b i = some v
theorem nd_has_get : ∀ (a : mm_L) (i : Nat), nd_has i a = false → mm_get a i = none
  | [], _, _ => rfl
  | (j, w) :: r, i, h => by
    unfold nd_has at h
    rw [Bool.or_eq_false_iff] at h
    unfold mm_get
    rw [h.1]
    exact nd_has_get r i h.2
theorem subL_get : ∀ (a b : mm_L), subL a b → ∀ i v, mm_get a i = some v → mm_get b i = some v
  | [], _, _, i, v, h => by cases h
  | (j, w) :: r, b, hs, i, v, h => by
    unfold mm_get at h
    cases hb : Nat.beq j i with
    | true =>
      rw [hb] at h
      have e := Nat.eq_of_beq_eq_true hb
      subst e
      cases h
      exact hs.1
    | false =>
      rw [hb] at h
      exact subL_get r b hs.2 i v h
theorem mm_K.of {a b : mm_L} (h1 : nd a = true) (h2 : nd b = true) (hs : subL a b) : mm_K a b := ⟨h1, h2, subL_get a b hs⟩
/-- what a store throws out: by a test of place and value -/
def mm_flt (t : Nat → Value → Bool) : mm_L → mm_L
  | [] => []
  | (j, w) :: r => cond (t j w) (mm_flt t r) ((j, w) :: mm_flt t r)
theorem mm_del1_flt (i : Nat) : ∀ a, mm_del1 i a = mm_flt (fun j w => Nat.beq j i || (Nat.beq (j + 1) i && Nat.beq w.category 2)) a
  | [] => rfl
  | (j, w) :: r => by unfold mm_del1 mm_flt; rw [mm_del1_flt i r]
theorem mm_del2_flt (i : Nat) : ∀ a, mm_del2 i a = mm_flt (fun j w => Nat.beq j i || (Nat.beq j (i + 1) || (Nat.beq (j + 1) i && Nat.beq w.category 2))) a
  | [] => rfl
  | (j, w) :: r => by unfold mm_del2 mm_flt; rw [mm_del2_flt i r]
theorem flt_has (t : Nat → Value → Bool) : ∀ (a : mm_L) (i : Nat), nd_has i a = false → nd_has i (mm_flt t a) = false
  | [], _, _ => rfl
  | (j, w) :: r, i, h => by
    unfold nd_has at h
    rw [Bool.or_eq_false_iff] at h
    unfold mm_flt
    cases t j w with
    | true => exact flt_has t r i h.2
    | false =>
      show nd_has i ((j, w) :: mm_flt t r) = false
      unfold nd_has
      rw [h.1, flt_has t r i h.2]
      rfl
theorem flt_nd (t : Nat → Value → Bool) : ∀ (a : mm_L), nd a = true → nd (mm_flt t a) = true
  | [], _ => rfl
  | (j, w) :: r, h => by
    unfold nd at h
    rw [Bool.and_eq_true] at h
    unfold mm_flt
    cases t j w with
    | true => exact flt_nd t r h.2
    | false =>
      show nd ((j, w) :: mm_flt t r) = true
      unfold nd
      have h1 : nd_has j r = false := by
        cases hq : nd_has j r with
        | false => rfl
        | true => rw [hq] at h; exact absurd h.1 (by decide)
      rw [flt_has t r j h1, flt_nd t r h.2]
      rfl
theorem flt_gone (t : Nat → Value → Bool) (i : Nat) (ht : ∀ w, t i w = true) : ∀ (a : mm_L), nd_has i (mm_flt t a) = false
  | [] => rfl
  | (j, w) :: r => by
    unfold mm_flt
    cases hb : t j w with
    | true => exact flt_gone t i ht r
    | false =>
      show nd_has i ((j, w) :: mm_flt t r) = false
      unfold nd_has
      rw [flt_gone t i ht r, Bool.or_false]
      cases hq : Nat.beq j i with
      | false => rfl
      | true =>
        have e := Nat.eq_of_beq_eq_true hq
        subst e
        rw [ht w] at hb
        cases hb
theorem flt_get (t : Nat → Value → Bool) : ∀ (a : mm_L), nd a = true → ∀ i v, (mm_get (mm_flt t a) i = some v ↔ (mm_get a i = some v ∧ t i v = false))
  | [], _, i, v => ⟨(fun h => by cases h), (fun h => by cases h.1)⟩
  | (j, w) :: r, h, i, v => by
    unfold nd at h
    rw [Bool.and_eq_true] at h
    have h1 : nd_has j r = false := by
      cases hq : nd_has j r with
      | false => rfl
      | true => rw [hq] at h; exact absurd h.1 (by decide)
    have ih := flt_get t r h.2 i v
    have e1 : mm_get ((j, w) :: r) i = cond (Nat.beq j i) (some w) (mm_get r i) := rfl
    rw [e1]
    unfold mm_flt
    cases hb : Nat.beq j i with
    | true =>
      have e := Nat.eq_of_beq_eq_true hb
      subst e
      cases ht : t j w with
      | true =>
        show mm_get (mm_flt t r) j = some v ↔ (some w = some v ∧ t j v = false)
        rw [ih, nd_has_get r j h1]
        constructor
        · intro hx; cases hx.1
        · intro hx; cases hx.1; rw [ht] at hx; cases hx.2
      | false =>
        show mm_get ((j, w) :: mm_flt t r) j = some v ↔ (some w = some v ∧ t j v = false)
        unfold mm_get
        rw [hb]
        constructor
        · intro hx; cases hx; exact ⟨rfl, ht⟩
        · intro hx; exact hx.1
    | false =>
      cases ht : t j w with
      | true => exact ih
      | false =>
        show mm_get ((j, w) :: mm_flt t r) i = some v ↔ _
        have e2 : mm_get ((j, w) :: mm_flt t r) i = cond (Nat.beq j i) (some w) (mm_get (mm_flt t r) i) := rfl
        rw [e2, hb]
        exact ih
theorem mm_K.put {a b : mm_L} {k : Nat} {x : Value} (t : Nat → Value → Bool) (ht : ∀ w, t k w = true) (hK : mm_K a b) : mm_K ((k, x) :: mm_flt t a) ((k, x) :: mm_flt t b) := by
  obtain ⟨h1, h2, h3⟩ := hK
  refine ⟨?_, ?_, fun i v hv => ?_⟩
  · unfold nd; rw [flt_gone t k ht a, flt_nd t a h1]; rfl
  · unfold nd; rw [flt_gone t k ht b, flt_nd t b h2]; rfl
  · unfold mm_get at hv ⊢
    cases hb : Nat.beq k i with
    | true => rw [hb] at hv; exact hv
    | false =>
      rw [hb] at hv
      have g := (flt_get t a h1 i v).mp hv
      exact (flt_get t b h2 i v).mpr ⟨h3 i v g.1, g.2⟩
theorem mm_K.put1 {a b : mm_L} (k : Nat) (x : Value) (hK : mm_K a b) : mm_K ((k, x) :: mm_del1 k a) ((k, x) :: mm_del1 k b) := by
  rw [mm_del1_flt, mm_del1_flt]
  exact hK.put _ (fun w => by simp [mm_beq_self])
theorem mm_K.put2 {a b : mm_L} (k : Nat) (x : Value) (hK : mm_K a b) : mm_K ((k, x) :: mm_del2 k a) ((k, x) :: mm_del2 k b) := by
  rw [mm_del2_flt, mm_del2_flt]
  exact hK.put _ (fun w => by simp [mm_beq_self])
theorem mm_K.bind {a b : mm_L} {f : Value → Option Value} {k : Nat} {v : Value} (hK : mm_K a b) (h : (mm_get a k).bind f = some v) : (mm_get b k).bind f = some v := by
  cases hg : mm_get a k with
  | none => rw [hg] at h; cases h
  | some w => rw [hK.2.2 k w hg]; rw [hg] at h; exact h
theorem mm_K.load {a b : mm_L} {i : Instr} {len : Nat} {v : Value} (hK : mm_K a b) (h : mm_load a i len = some v) : mm_load b i len = some v := by
  unfold mm_load at h ⊢
  split at h <;> first | exact h | exact hK.bind h
theorem mm_K.store {a b a' : mm_L} {nl len : Nat} {i : Instr} {st st' : List Value} (hK : mm_K a b) (h : mm_store nl a i len st = some (a', st')) : ∃ b', mm_store nl b i len st = some (b', st') ∧ mm_K a' b' := by
  unfold mm_store at h ⊢
  split at h
  · obtain ⟨h1, h2⟩ := mm_cond2 h; cases h2; exact ⟨_, by simp only [h1, cond_true], hK.put1 _ _⟩
  · obtain ⟨h1, h2⟩ := mm_cond2 h; cases h2; exact ⟨_, by simp only [h1, cond_true], hK.put1 _ _⟩
  · obtain ⟨h1, h2⟩ := mm_cond2 h; cases h2; exact ⟨_, by simp only [h1, cond_true], hK.put2 _ _⟩
  · obtain ⟨h1, h2⟩ := mm_cond2 h; cases h2; exact ⟨_, by simp only [h1, cond_true], hK.put2 _ _⟩
  · obtain ⟨h1, h2⟩ := mm_cond2 h; cases h2; exact ⟨_, by simp only [h1, cond_true], hK.put1 _ _⟩
  · obtain ⟨h1, h2⟩ := mm_cond2 h; cases h2; exact ⟨_, by simp only [h1, cond_true], hK.put1 _ _⟩
  · split at h
    · rename_i k n r x hg
      obtain ⟨h1, h2⟩ := mm_cond2 h
      cases h2
      exact ⟨_, by simp only [hK.2.2 _ _ hg, h1, cond_true], hK.put1 _ _⟩
    · cases h
  · cases h
/-- an instruction that reads a local does nothing else -/
theorem mm_load_only {b : mm_L} {i : Instr} {len : Nat} {v : Value} {k d pc nl : Nat} {rt : Option FieldType} {st : List Value} {h : mm_H} (hl : mm_load b i len = some v) : mm_ret rt i len st = none ∧ mm_thr k d pc i len st h = none ∧ mm_inv k i len st h = none := by
  unfold mm_load at hl
  split at hl <;> first | exact ⟨by unfold mm_ret; split <;> first | rfl | contradiction, rfl, rfl⟩ | cases hl
theorem mm_store_only {b b' : mm_L} {i : Instr} {len : Nat} {k d pc nl : Nat} {rt : Option FieldType} {st st' : List Value} {h : mm_H} (hl : mm_store nl b i len st = some (b', st')) : mm_ret rt i len st = none ∧ mm_thr k d pc i len st h = none ∧ mm_inv k i len st h = none := by
  unfold mm_store at hl
  split at hl <;> first | exact ⟨by unfold mm_ret; split <;> first | rfl | contradiction, rfl, rfl⟩ | cases hl
theorem mm_K.step {a b a' : mm_L} {k d len pc pc' : Nat} {i : Instr} {st st' : List Value} {h h' : mm_H} (hK : mm_K a b) (hs : mm_step k d i len pc a st h = some (pc', a', st', h')) : ∃ b', mm_step k d i len pc b st h = some (pc', b', st', h') ∧ mm_K a' b' := by
  unfold mm_step at hs ⊢
  cases h1 : mm_load a i len with
  | some v =>
    rw [h1] at hs
    cases hs
    rw [hK.load h1]
    exact ⟨b, rfl, hK⟩
  | none =>
    rw [h1] at hs
    dsimp only at hs
    cases h2 : mm_store (t_nl k) a i len st with
    | some q =>
      obtain ⟨a2, st2⟩ := q
      rw [h2] at hs
      cases hs
      obtain ⟨b2, h3, h4⟩ := hK.store h2
      have h5 : mm_load b i len = none := by
        unfold mm_store at h2
        split at h2 <;> first | rfl | cases h2
      rw [h5]
      dsimp only
      rw [h3]
      exact ⟨b2, rfl, h4⟩
    | none =>
      rw [h2] at hs
      dsimp only at hs
      cases h5 : mm_load b i len with
      | some v =>
        exfalso
        unfold mm_load at h5 h1
        split at h5 <;> first | (simp only at h1; cases h1; done) | (simp only [mm_arith, mm_stack, mm_jump, mm_rd, mm_wr, mm_fa] at hs; cases hs; done) | cases h5
      | none =>
        dsimp only
        cases h6 : mm_store (t_nl k) b i len st with
        | some q =>
          exfalso
          unfold mm_store at h6
          split at h6 <;> first | (simp only [mm_arith, mm_stack, mm_jump, mm_rd, mm_wr, mm_fa] at hs; cases hs; done) | cases h6
        | none =>
          dsimp only
          cases h7 : mm_arith i len st with
          | some q => rw [h7] at hs; cases hs; exact ⟨b, rfl, hK⟩
          | none =>
            rw [h7] at hs
            dsimp only at hs ⊢
            cases h8 : mm_stack i len st with
            | some q => rw [h8] at hs; cases hs; exact ⟨b, rfl, hK⟩
            | none =>
              rw [h8] at hs
              dsimp only at hs ⊢
              cases h9 : mm_jump pc i len st with
              | some q => rw [h9] at hs; cases hs; exact ⟨b, rfl, hK⟩
              | none =>
                rw [h9] at hs
                dsimp only at hs ⊢
                cases h10 : mm_rd h i len st with
                | some q => rw [h10] at hs; cases hs; exact ⟨b, rfl, hK⟩
                | none =>
                  rw [h10] at hs
                  dsimp only at hs ⊢
                  cases h11 : mm_wr h i len st with
                  | some q => rw [h11] at hs; cases hs; exact ⟨b, rfl, hK⟩
                  | none =>
                    rw [h11] at hs
                    dsimp only at hs ⊢
                    cases h12 : mm_fa k d i len st h with
                    | some q => rw [h12] at hs; cases hs; exact ⟨b, rfl, hK⟩
                    | none => rw [h12] at hs; cases hs
theorem mm_step_none {a : mm_L} {k d len pc : Nat} {i : Instr} {st : List Value} {h : mm_H} (hs : mm_step k d i len pc a st h = none) : mm_arith i len st = none ∧ mm_stack i len st = none ∧ mm_jump pc i len st = none ∧ mm_rd h i len st = none ∧ mm_wr h i len st = none ∧ mm_fa k d i len st h = none := by
  unfold mm_step at hs
  split at hs
  · cases hs
  · split at hs
    · cases hs
    · split at hs
      · cases hs
      · rename_i g1
        split at hs
        · cases hs
        · rename_i g2
          split at hs
          · cases hs
          · rename_i g3
            split at hs
            · cases hs
            · rename_i g4
              split at hs
              · cases hs
              · rename_i g5
                split at hs
                · cases hs
                · rename_i g6
                  exact ⟨g1, g2, g3, g4, g5, g6⟩
theorem mm_K.stop {a b : mm_L} {k d len pc : Nat} {i : Instr} {st : List Value} {h : mm_H} (hs : mm_step k d i len pc a st h = none) (hn : ¬ (mm_ret (t_rt k) i len st = none ∧ mm_thr k d pc i len st h = none ∧ mm_inv k i len st h = none)) : mm_step k d i len pc b st h = none := by
  obtain ⟨g1, g2, g3, g4, g5, g6⟩ := mm_step_none hs
  unfold mm_step
  cases h1 : mm_load b i len with
  | some v => exact absurd (mm_load_only (nl := 0) h1) hn
  | none =>
    dsimp only
    cases h2 : mm_store (t_nl k) b i len st with
    | some q => exact absurd (mm_store_only h2) hn
    | none =>
      dsimp only
      rw [g1, g2, g3, g4, g5, g6]
theorem mm_K.exec : ∀ (n d k pc : Nat) (a b : mm_L) (st : List Value) (h : mm_H) (r : mm_O × mm_H), mm_K a b → mm_exec n d k pc a st h = some r → mm_exec n d k pc b st h = some r := by
  intro n
  induction n with
  | zero => intro d k pc a b st h r _ hx; cases hx
  | succ n ih =>
    intro d k pc a b st h r hK hx
    unfold mm_exec at hx ⊢
    cases hc : t_cod k pc with
    | none => rw [hc] at hx; cases hx
    | some q =>
      obtain ⟨i, len⟩ := q
      rw [hc] at hx
      dsimp only at hx ⊢
      cases hs : mm_step k d i len pc a st h with
      | some q =>
        obtain ⟨pc', a', st', h'⟩ := q
        rw [hs] at hx
        obtain ⟨b', e1, e2⟩ := hK.step hs
        rw [e1]
        exact ih _ _ _ _ _ _ _ _ e2 hx
      | none =>
        rw [hs] at hx
        dsimp only at hx
        have key : mm_step k d i len pc b st h = none := by
          refine mm_K.stop hs (fun hn => ?_)
          rw [hn.1, hn.2.1, hn.2.2] at hx
          cases hx
        rw [key]
        dsimp only
        cases hr : mm_ret (t_rt k) i len st with
        | some v => rw [hr] at hx; exact hx
        | none =>
          rw [hr] at hx
          dsimp only at hx ⊢
          cases ht : mm_thr k d pc i len st h with
          | some q => rw [ht] at hx; exact hx
          | none =>
            rw [ht] at hx
            dsimp only at hx ⊢
            cases hv : mm_inv k i len st h with
            | none => rw [hv] at hx; cases hx
            | some q =>
              obtain ⟨k', as, rest⟩ := q
              rw [hv] at hx
              dsimp only at hx ⊢
              cases d with
              | zero => cases hx
              | succ d' =>
                dsimp only at hx ⊢
                cases hcal : mm_exec n d' k' 0 (lv_args 0 as) [] h with
                | none => rw [hcal] at hx; cases hx
                | some q =>
                  rw [hcal] at hx
                  obtain ⟨o, h'⟩ := q
                  cases o with
                  | inl v =>
                    dsimp only at hx ⊢
                    exact ih _ _ _ _ _ _ _ _ hK hx
                  | inr x =>
                    dsimp only at hx ⊢
                    cases hf : mm_find (t_hx k) pc x.1 with
                    | some pc' =>
                      rw [hf] at hx
                      dsimp only at hx ⊢
                      exact ih _ _ _ _ _ _ _ _ hK hx
                    | none => rw [hf] at hx; exact hx
theorem x_lv {d k pc : Nat} {a b : mm_L} {st : List Value} {h : mm_H} {Q : mm_O × mm_H → Prop} (h1 : nd a = true) (h2 : nd b = true) (hs : subL a b) (w : Wx d k pc a st h Q) : Wx d k pc b st h Q := by
  obtain ⟨n, r, e1, e2⟩ := w
  exact ⟨n, r, mm_K.exec _ _ _ _ _ _ _ _ _ (mm_K.of h1 h2 hs) e1, e2⟩
