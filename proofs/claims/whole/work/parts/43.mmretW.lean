section MMR
variable {p : Program} {l : Launch} {e : Env} {R : Room} {s : State} {m : MethodId} {args : Array Value} {below : List Frame} {meth : Method} {c : Code} {H : Heap} {locs : List Loc} {cells slots : Nat} {Q Q' : State → Prop}
variable {pc len d k : Nat} {ls : Array Slot} {st : List Value} {i : Instr} {D : va_G} {aC : Nat → ClassId} {H0 : Heap} {h : mm_H} {z : Nat × Nat}
theorem mm_mono {g : JFrame} (hq : ∀ t, Q t → Q' t) (kk : W p l e R s m args below meth c H locs cells slots Q g) : W p l e R s m args below meth c H locs cells slots Q' g := by
  intro T hT X
  obtain ⟨t, a, b⟩ := kk T hT X
  exact ⟨t, a, hq t b⟩
theorem mm_ret_W {v : Option Value} (C : mm_Cx p D aC H0 R s m meth c d k z) (O : mm_Ok D aC H0 z h H locs cells slots) (hd : decode (t_b k) pc = .ok (i, len)) (hr : mm_ret (t_rt k) i len st = some v) :
    W p l e R s m args below meth c H locs cells slots (mm_Res D aC t_cl H0 s below z (.inl v, h)) (F0 m pc ls st) := by
  obtain ⟨hx, -, hK, ⟨hnm, hme, hco, hb, hml, hrt, hlk, hhh, hsig⟩, -⟩ := id C
  obtain ⟨hE, hL, hz1, hz2, ec, es⟩ := O
  have key : ∀ v : Option Value, ∀ t, MQ below (fun _ _ o t => o = .returned v ∧ t.heap = H) args s cells slots (fun q => H0.size ≤ q) t → mm_Res D aC t_cl H0 s below z (.inl v, h) t := by
    rintro v t ⟨o, h1, h2, ⟨h3, h4⟩, L, ⟨-, h5, h6⟩, h7⟩
    subst h3
    exact ⟨h1, h2, h5, ⟨L, h7, by rw [← ec, ← es]; exact h6⟩, by rw [h4]; exact hE, trivial, hz1, hz2⟩
  generalize t_rt k = rt at hr hrt
  unfold mm_ret at hr
  split at hr
  · cases hr
    exact mm_mono (key _) (W.iret hx hb hrt (fun t ht _ => ⟨rfl, ht⟩) hL hd hlk)
  · obtain ⟨h1, h2⟩ := mm_cond2 hr
    cases h2
    exact mm_mono (key _) (W.zret hx hb hrt (mm_fit_ok (ty := .boolean) (v := .int _) h1).1 (fun t ht _ => ⟨rfl, ht⟩) hL hd hlk)
  · cases hr
    exact mm_mono (key _) (W.lret hx hb hrt (fun t ht _ => ⟨rfl, ht⟩) hL hd hlk)
  · cases hr
    exact mm_mono (key _) (W.aret hx hb hrt (Or.inl ⟨_, rfl⟩) (Or.inr ⟨_, rfl⟩) (fun t ht _ => ⟨rfl, ht⟩) hL hd hlk)
  · cases hr
    exact mm_mono (key _) (W.vret hx hb hrt (fun t ht _ => ⟨rfl, ht⟩) hL hd hlk)
  · cases hr
end MMR
