section MMS
variable {p : Program} {l : Launch} {e : Env} {R : Room} {s : State} {m : MethodId} {args : Array Value} {below : List Frame} {meth : Method} {c : Code} {H : Heap} {locs : List Loc} {cells slots : Nat} {Q : State → Prop}
variable {pc len d k : Nat} {ls : Array Slot} {st st' : List Value} {i : Instr} {D : va_G} {aC : Nat → ClassId} {H0 : Heap} {h h' : mm_H} {z : Nat × Nat} {lv lv' : mm_L}
theorem mm_Cx.own (C : mm_Cx p D aC H0 R s m meth c d k z) : s.vm.findClass (t_on (t_o k)) = some m.cls := by
  have h1 := findClass_of_methodNamed C.2.2.2.1.1
  rw [tb_on] at h1
  exact h1
theorem mm_Cx.hts (C : mm_Cx p D aC H0 R s m meth c d k z) : ∀ w ∈ tb_Ts, w.before args s = true := fun w hw => C.2.1.1 w hw args
set_option maxHeartbeats 8000000 in
theorem mm_fa_W (C : mm_Cx p D aC H0 R s m meth c d k z) (O : mm_Ok D aC H0 z h H locs cells slots) (hsz : ls.size = t_nl k) (hd : decode (t_b k) pc = .ok (i, len)) (hr : mm_fa k d i len st h = some (st', h'))
    (kk : ∀ (H1 : Heap) (L : List Loc) (cells' slots' : Nat), mm_Ok D aC H0 z h' H1 (locs ++ L) cells' slots' → W p l e R s m args below meth c H1 (locs ++ L) cells' slots' Q (F0 m (pc + len) ls st')) :
    W p l e R s m args below meth c H locs cells slots Q (F0 m pc ls st) := by
  have hown := C.own
  have hts := C.hts (args := args)
  obtain ⟨hx, -, hK, ⟨hnm, hme, hco, hb, hml, hrt, hlk, hhh, hsig⟩, hRf, hRl, hRc, hRs, -⟩ := id C
  obtain ⟨hE, hL, hz1, hz2, ec, es⟩ := O
  have kk0 : ∀ st2 : List Value, (st2, h) = (st', h') → W p l e R s m args below meth c H locs cells slots Q (F0 m (pc + len) ls st') := by
    intro st2 e2
    cases e2
    have := kk H [] cells slots (by rw [List.append_nil]; exact ⟨hE, hL, hz1, hz2, ec, es⟩)
    rw [List.append_nil] at this
    exact this
  unfold mm_fa at hr
  split at hr
  · split at hr
    · rename_i ci j ci' fs hf ha
      obtain ⟨h1, h2⟩ := mm_cond2 hr
      have e1 := Nat.eq_of_beq_eq_true h1
      subst e1
      cases hv : fs[j]? with
      | none => rw [hv] at h2; cases h2
      | some v =>
        rw [hv] at h2
        have e3 := Option.some.inj h2
        obtain ⟨Cn, T, N, hc, hk, hlink⟩ := tb_fld hf
        have e4 := kk0 _ e3
        cases e3
        exact mm_getf_W hx hb hts hown hK hE hc (tb_cl hc).1 hk hlink ha hv hd e4
    · cases hr
  · split at hr
    · rename_i ci j ci' fs hf ha
      obtain ⟨h1, h2⟩ := mm_cond2 hr
      simp only [Bool.and_eq_true] at h1
      obtain ⟨h1, h3, h4, h5⟩ := h1
      have e1 := Nat.eq_of_beq_eq_true h1
      subst e1
      obtain ⟨Cn, T, N, hc, hk, hlink⟩ := tb_fld hf
      cases Option.some.inj h2
      refine mm_putf_W hx hb hts hown hK hE hc (tb_cl hc).1 (t_ct ci') (tb_cl hc).2.1 (tb_cl hc).2.2.1 hk hlink (fun hfin => ?_) ha (Nat.le_of_ble_eq_true h4) h3 hd (fun H1 L hE1 hL1 => ?_)
      · have h6 := tb_fin hc hk
        rw [hfin] at h6
        rw [h6] at h5
        obtain ⟨h7, h8⟩ := tb_ini hc hk (by simpa using h5)
        exact ⟨(name_of_methodNamed hnm hme).1.trans h7, h8⟩
      · exact kk H1 L cells slots ⟨hE1, fun q hq => (List.mem_append.mp hq).elim (hL q) (hL1 q), hz1, hz2, ec, es⟩
    · cases hr
  · split at hr
    · rename_i x hcx
      have e3 := Option.some.inj hr
      have e4 := kk0 _ e3
      cases e3
      exact lv_ldc hx hb hown (hts _ (tb_ci hcx)) hd e4
    · cases hr
  · split at hr
    · rename_i x hcx
      have e3 := Option.some.inj hr
      have e4 := kk0 _ e3
      cases e3
      exact lv_ldc2 hx hb hown (hts _ (tb_cj hcx)) hd e4
    · cases hr
  · obtain ⟨h1, h2⟩ := mm_cond2 hr
    simp only [Bool.and_eq_true] at h1
    obtain ⟨h1, h3, h4⟩ := h1
    have e3 := Option.some.inj h2
    have e4 := kk0 _ e3
    cases e3
    have h5 := mm_sum12 h4
    have h6 : 1 ≤ d := Nat.le_of_ble_eq_true h3
    refine W.objInit hx hb hown (hts _ (tb_obi h1)) (hts _ tb_ob1) (hts _ tb_ob2) rfl (by rw [hml]; exact hsz) rfl hd (by omega) ?_ e4
    show 2 * 0 + _ + 12 ≤ _
    omega
  · split at hr
    · rename_i hm
      obtain ⟨h1, h2⟩ := mm_cond2 hr
      simp only [Bool.and_eq_true] at h1
      have e3 := Option.some.inj h2
      have e4 := kk0 _ e3
      cases e3
      have h5 := mm_sum12 h1.2
      have h6 : 1 ≤ d := Nat.le_of_ble_eq_true h1.1
      exact va_mmax_long hx hb (by rw [hml]; exact hsz.symm) hown (hts _ (tb_mx1 hm)) (hts _ tb_mxs) (hts _ tb_mxi) (hts _ tb_mxc) (by omega) (by omega) (by omega) (by omega) hd e4
    · rename_i hm
      obtain ⟨h1, h2⟩ := mm_cond2 hr
      simp only [Bool.and_eq_true] at h1
      have e3 := Option.some.inj h2
      have e4 := kk0 _ e3
      cases e3
      have h5 := mm_sum12 h1.2
      have h6 : 1 ≤ d := Nat.le_of_ble_eq_true h1.1
      exact va_mmin_long hx hb (by rw [hml]; exact hsz.symm) hown (hts _ (tb_mn1 hm)) (hts _ tb_mns) (hts _ tb_mxi) (hts _ tb_mnc) (by omega) (by omega) (by omega) (by omega) hd e4
    · cases hr
  · split at hr
    · rename_i ci hcl
      obtain ⟨h1, h2⟩ := mm_cond2 hr
      simp only [Bool.and_eq_true] at h1
      have h3 : 1 ≤ h.2.1.1 := Nat.le_of_ble_eq_true h1.1
      have h4 : t_N ci ≤ h.2.1.2 := Nat.le_of_ble_eq_true h1.2
      cases Option.some.inj h2
      obtain ⟨Cn, T, hc, hl1, hl2, hl3⟩ := tb_cls hcl
      refine mm_new_W hx hb hts hown hK hE hc (tb_cl hc).1 (t_ct ci) (tb_cl hc).2.1 (tb_cl hc).2.2.2 hl1 hl2 hl3 (by omega) (by omega) hd (fun H1 hE1 => ?_)
      have := kk H1 [] (cells + 1) (slots + t_N ci) (by rw [List.append_nil]; exact ⟨hE1, hL, by show h.2.1.1 - 1 ≤ _; omega, by show h.2.1.2 - _ ≤ _; omega, by show _ = z.1 - (h.2.1.1 - 1); omega, by show _ = z.2 - (h.2.1.2 - _); omega⟩)
      rw [List.append_nil] at this
      exact this
    · cases hr
  · split at hr
    · rename_i nn rr xx t ht
      split at hr
      · cases hr
      · rename_i hn
        cases Option.some.inj hr
        obtain ⟨ht1, ht2, ht3⟩ := tb_at ht
        refine mm_newa_W hx hb hts hK hE ht1 ht2 ht3 (fun q => hn (Or.inl q)) rfl (by omega) (by omega) (by omega) hd (fun H1 hE1 => ?_)
        have := kk H1 [] (cells + 1) (slots + nn.toNatClampNeg) (by rw [List.append_nil]; exact ⟨hE1, hL, by show h.2.1.1 - 1 ≤ _; omega, by show h.2.1.2 - _ ≤ _; omega, by show _ = z.1 - (h.2.1.1 - 1); omega, by show _ = z.2 - (h.2.1.2 - _); omega⟩)
        rw [List.append_nil] at this
        exact this
    · cases hr
  · split at hr
    · rename_i nn rr xx t ht
      split at hr
      · cases hr
      · rename_i hn
        cases Option.some.inj hr
        obtain ⟨Cn, ht1, ht2, ht3, ht4⟩ := tb_ary ht
        refine mm_anew_W hx hb hts hown hK hE ht1 ht2 ht3 ht4 (fun q => hn (Or.inl q)) rfl (by omega) (by omega) (by omega) hd (fun H1 hE1 => ?_)
        have := kk H1 [] (cells + 1) (slots + nn.toNatClampNeg) (by rw [List.append_nil]; exact ⟨hE1, hL, by show h.2.1.1 - 1 ≤ _; omega, by show h.2.1.2 - _ ≤ _; omega, by show _ = z.1 - (h.2.1.1 - 1); omega, by show _ = z.2 - (h.2.1.2 - _); omega⟩)
        rw [List.append_nil] at this
        exact this
    · cases hr
  · cases hr
set_option maxHeartbeats 4000000 in
theorem mm_step_W {pc' : Nat} (C : mm_Cx p D aC H0 R s m meth c d k z) (O : mm_Ok D aC H0 z h H locs cells slots) (hl : lv_has ls (t_nl k) lv) (hd : decode (t_b k) pc = .ok (i, len)) (hr : mm_step k d i len pc lv st h = some (pc', lv', st', h'))
    (kk : ∀ (ls' : Array Slot) (H1 : Heap) (L : List Loc) (cells' slots' : Nat), lv_has ls' (t_nl k) lv' → mm_Ok D aC H0 z h' H1 L cells' slots' → W p l e R s m args below meth c H1 L cells' slots' Q (F0 m pc' ls' st')) :
    W p l e R s m args below meth c H locs cells slots Q (F0 m pc ls st) := by
  obtain ⟨hx, -, hK, ⟨-, -, -, hb, -⟩, -⟩ := id C
  unfold mm_step at hr
  split at hr
  · rename_i v h1
    cases hr
    exact mm_load_W hx hb hl hd h1 (kk ls H locs cells slots hl O)
  · split at hr
    · rename_i lv2 st2 h1
      cases hr
      exact mm_store_W hx hb hl hd h1 (fun ls' hl' => kk ls' H locs cells slots hl' O)
    · split at hr
      · rename_i st2 h1
        cases hr
        exact mm_arith_W hx hb hd h1 (kk ls H locs cells slots hl O)
      · split at hr
        · rename_i st2 h1
          cases hr
          exact mm_stack_W hx hb hd h1 (kk ls H locs cells slots hl O)
        · split at hr
          · rename_i pc2 st2 h1
            cases hr
            exact mm_jump_W hx hb hd h1 (kk ls H locs cells slots hl O)
          · split at hr
            · rename_i st2 h1
              cases hr
              exact mm_rd_W hx hb hK O.1 hd h1 (kk ls H locs cells slots hl O)
            · split at hr
              · rename_i st2 h2 h1
                cases hr
                refine mm_wr_W hx hb hK O.1 tb_c1 tb_c2 rfl rfl hd h1 (fun H1 L hE1 hL1 => kk ls H1 (locs ++ L) cells slots hl ?_)
                obtain ⟨hE, hL, hz1, hz2, ec, es⟩ := O
                have hbud := mm_wr_bud h1
                rw [← hbud] at hz1 hz2 ec es
                exact ⟨hE1, fun q hq => (List.mem_append.mp hq).elim (hL q) (hL1 q), hz1, hz2, ec, es⟩
              · split at hr
                · rename_i st2 h2 h1
                  cases hr
                  exact mm_fa_W C O hl.1 hd h1 (fun H1 L cells' slots' O' => kk ls H1 (locs ++ L) cells' slots' hl O')
                · cases hr
end MMS
