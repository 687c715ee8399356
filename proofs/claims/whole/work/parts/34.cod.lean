theorem mm_look_mem : ∀ (L : List (Nat × Instr × Nat)) (pc : Nat) (x : Instr × Nat), mm_look L pc = some x → (pc, x) ∈ L
  | [], pc, x, h => by cases h
  | (q, i) :: r, pc, x, h => by
    unfold mm_look at h
    cases hb : Nat.beq q pc with
    | true =>
      rw [hb] at h
      have e := Nat.eq_of_beq_eq_true hb
      subst e
      cases h
      exact List.mem_cons_self
    | false =>
      rw [hb] at h
      exact List.mem_cons_of_mem _ (mm_look_mem r pc x h)
theorem mm_dec {b : ByteArray} {L : List (Nat × Instr × Nat)} (hd : ∀ e ∈ L, decode b e.1 = .ok e.2) {pc : Nat} {x : Instr × Nat} (h : mm_look L pc = some x) : decode b pc = .ok x := hd (pc, x) (mm_look_mem L pc x h)
theorem mm_condor {α : Type} {b : Bool} {x y z : α} (h : cond b x y = z) : x = z ∨ y = z := by
  cases b with
  | true => exact Or.inl h
  | false => exact Or.inr h
theorem tb_codL {pc : Nat} {x : Instr × Nat} (h : t_codL pc = some x) : decode code pc = .ok x := by
  unfold t_codL at h
  rcases mm_condor h with h | h
  rotate_left
  · exact mm_dec d_law_0 h
  rcases mm_condor h with h | h
  rotate_left
  · exact mm_dec d_law_1 h
  rcases mm_condor h with h | h
  rotate_left
  · exact mm_dec d_law_2 h
  rcases mm_condor h with h | h
  rotate_left
  · exact mm_dec d_law_3 h
  rcases mm_condor h with h | h
  rotate_left
  · exact mm_dec d_law_4 h
  rcases mm_condor h with h | h
  rotate_left
  · exact mm_dec d_law_5 h
  rcases mm_condor h with h | h
  rotate_left
  · exact mm_dec d_law_6 h
  rcases mm_condor h with h | h
  rotate_left
  · exact mm_dec d_law_7 h
  rcases mm_condor h with h | h
  rotate_left
  · exact mm_dec d_law_8 h
  rcases mm_condor h with h | h
  rotate_left
  · exact mm_dec d_law_9 h
  rcases mm_condor h with h | h
  rotate_left
  · exact mm_dec d_law_10 h
  exact mm_dec d_law_11 h
theorem tb_tabs : ∀ q ∈ ([(c_0, prog_1_method_1_code), (c_1, prog_1_method_2_code), (c_2, prog_1_method_3_code), (c_3, prog_1_method_4_code), (c_4, prog_1_method_5_code), (c_5, prog_1_method_6_code), (c_6, prog_1_method_7_code), (c_7, prog_1_method_8_code), (c_8, prog_1_method_9_code), (c_9, prog_1_method_10_code), (c_10, prog_1_method_11_code), (c_11, prog_1_method_12_code), (c_12, prog_1_method_13_code), (c_13, prog_1_method_14_code), (c_14, prog_1_method_15_code), (c_15, prog_1_method_16_code), (c_16, prog_1_method_17_code), (c_17, prog_1_method_18_code), (c_18, prog_1_method_19_code), (c_19, prog_1_method_20_code), (c_20, prog_1_method_21_code), (c_21, prog_1_method_22_code), (c_22, prog_1_method_23_code), (c_23, prog_1_method_24_code), (c_24, prog_1_method_25_code), (c_25, prog_1_method_26_code), (c_26, prog_1_method_27_code), (c_27, prog_1_method_28_code), (c_28, prog_1_method_29_code), (c_29, prog_1_method_30_code), (c_30, prog_1_method_31_code), (c_31, prog_1_method_32_code), (c_32, prog_1_method_33_code), (c_33, prog_1_method_34_code), (c_34, prog_1_method_35_code), (c_35, prog_1_method_36_code), (c_36, prog_1_method_37_code), (c_37, prog_1_method_38_code), (c_38, prog_1_method_39_code), (c_39, prog_3_method_1_code), (c_40, prog_3_method_2_code), (c_41, prog_3_method_3_code), (c_42, prog_3_method_4_code), (c_43, prog_3_method_5_code), (c_44, prog_3_method_6_code), (c_45, prog_3_method_7_code), (c_46, prog_2_method_1_code), (c_47, prog_2_method_2_code), (c_48, prog_2_method_3_code), (c_49, prog_2_method_4_code), (c_50, prog_4_method_1_code), (c_51, prog_4_method_2_code), (c_52, prog_4_method_3_code), (c_53, prog_6_method_1_code), (c_54, prog_6_method_2_code), (c_55, prog_6_method_3_code), (c_56, prog_6_method_4_code), (c_57, prog_6_method_5_code), (c_58, prog_6_method_6_code), (c_59, prog_6_method_7_code), (c_60, prog_6_method_8_code), (c_61, prog_6_method_9_code), (c_62, prog_6_method_10_code), (c_63, prog_6_method_11_code), (c_64, prog_6_method_12_code), (c_65, prog_6_method_13_code), (c_66, prog_6_method_14_code), (c_67, prog_6_method_15_code), (c_68, prog_6_method_16_code), (c_69, prog_6_method_17_code), (c_70, prog_6_method_18_code), (c_71, prog_6_method_19_code), (c_72, prog_6_method_20_code), (c_73, prog_6_method_21_code), (c_74, prog_6_method_22_code), (c_75, prog_6_method_23_code), (c_76, prog_6_method_24_code), (c_77, prog_6_method_25_code), (c_78, prog_6_method_26_code), (c_79, prog_6_method_27_code), (c_80, prog_6_method_28_code), (c_81, prog_6_method_29_code), (c_82, prog_6_method_30_code), (c_83, prog_6_method_31_code), (c_84, prog_6_method_32_code), (c_85, prog_6_method_33_code), (c_86, prog_6_method_34_code), (c_87, prog_6_method_35_code), (c_88, prog_6_method_36_code), (c_89, prog_6_method_37_code), (c_90, prog_6_method_38_code), (c_91, prog_6_method_39_code), (c_92, prog_6_method_40_code), (c_93, prog_6_method_41_code), (c_94, prog_6_method_42_code), (c_95, method_3_code), (c_96, method_4_code), (c_97, method_5_code), (c_98, method_6_code), (c_99, method_7_code), (c_100, method_8_code), (c_101, method_9_code), (c_102, method_10_code), (c_103, method_11_code), (c_104, method_12_code), (c_105, method_13_code), (c_106, method_14_code), (c_107, method_15_code), (c_108, method_16_code), (c_109, method_17_code)] : List (List (Nat × Instr × Nat) × ByteArray)), ∀ e ∈ q.1, decode q.2 e.1 = .ok e.2 := List.forall_mem_cons.mpr ⟨d_0, List.forall_mem_cons.mpr ⟨d_1, List.forall_mem_cons.mpr ⟨d_2, List.forall_mem_cons.mpr ⟨d_3, List.forall_mem_cons.mpr ⟨d_4, List.forall_mem_cons.mpr ⟨d_5, List.forall_mem_cons.mpr ⟨d_6, List.forall_mem_cons.mpr ⟨d_7, List.forall_mem_cons.mpr ⟨d_8, List.forall_mem_cons.mpr ⟨d_9, List.forall_mem_cons.mpr ⟨d_10, List.forall_mem_cons.mpr ⟨d_11, List.forall_mem_cons.mpr ⟨d_12, List.forall_mem_cons.mpr ⟨d_13, List.forall_mem_cons.mpr ⟨d_14, List.forall_mem_cons.mpr ⟨d_15, List.forall_mem_cons.mpr ⟨d_16, List.forall_mem_cons.mpr ⟨d_17, List.forall_mem_cons.mpr ⟨d_18, List.forall_mem_cons.mpr ⟨d_19, List.forall_mem_cons.mpr ⟨d_20, List.forall_mem_cons.mpr ⟨d_21, List.forall_mem_cons.mpr ⟨d_22, List.forall_mem_cons.mpr ⟨d_23, List.forall_mem_cons.mpr ⟨d_24, List.forall_mem_cons.mpr ⟨d_25, List.forall_mem_cons.mpr ⟨d_26, List.forall_mem_cons.mpr ⟨d_27, List.forall_mem_cons.mpr ⟨d_28, List.forall_mem_cons.mpr ⟨d_29, List.forall_mem_cons.mpr ⟨d_30, List.forall_mem_cons.mpr ⟨d_31, List.forall_mem_cons.mpr ⟨d_32, List.forall_mem_cons.mpr ⟨d_33, List.forall_mem_cons.mpr ⟨d_34, List.forall_mem_cons.mpr ⟨d_35, List.forall_mem_cons.mpr ⟨d_36, List.forall_mem_cons.mpr ⟨d_37, List.forall_mem_cons.mpr ⟨d_38, List.forall_mem_cons.mpr ⟨d_39, List.forall_mem_cons.mpr ⟨d_40, List.forall_mem_cons.mpr ⟨d_41, List.forall_mem_cons.mpr ⟨d_42, List.forall_mem_cons.mpr ⟨d_43, List.forall_mem_cons.mpr ⟨d_44, List.forall_mem_cons.mpr ⟨d_45, List.forall_mem_cons.mpr ⟨d_46, List.forall_mem_cons.mpr ⟨d_47, List.forall_mem_cons.mpr ⟨d_48, List.forall_mem_cons.mpr ⟨d_49, List.forall_mem_cons.mpr ⟨d_50, List.forall_mem_cons.mpr ⟨d_51, List.forall_mem_cons.mpr ⟨d_52, List.forall_mem_cons.mpr ⟨d_53, List.forall_mem_cons.mpr ⟨d_54, List.forall_mem_cons.mpr ⟨d_55, List.forall_mem_cons.mpr ⟨d_56, List.forall_mem_cons.mpr ⟨d_57, List.forall_mem_cons.mpr ⟨d_58, List.forall_mem_cons.mpr ⟨d_59, List.forall_mem_cons.mpr ⟨d_60, List.forall_mem_cons.mpr ⟨d_61, List.forall_mem_cons.mpr ⟨d_62, List.forall_mem_cons.mpr ⟨d_63, List.forall_mem_cons.mpr ⟨d_64, List.forall_mem_cons.mpr ⟨d_65, List.forall_mem_cons.mpr ⟨d_66, List.forall_mem_cons.mpr ⟨d_67, List.forall_mem_cons.mpr ⟨d_68, List.forall_mem_cons.mpr ⟨d_69, List.forall_mem_cons.mpr ⟨d_70, List.forall_mem_cons.mpr ⟨d_71, List.forall_mem_cons.mpr ⟨d_72, List.forall_mem_cons.mpr ⟨d_73, List.forall_mem_cons.mpr ⟨d_74, List.forall_mem_cons.mpr ⟨d_75, List.forall_mem_cons.mpr ⟨d_76, List.forall_mem_cons.mpr ⟨d_77, List.forall_mem_cons.mpr ⟨d_78, List.forall_mem_cons.mpr ⟨d_79, List.forall_mem_cons.mpr ⟨d_80, List.forall_mem_cons.mpr ⟨d_81, List.forall_mem_cons.mpr ⟨d_82, List.forall_mem_cons.mpr ⟨d_83, List.forall_mem_cons.mpr ⟨d_84, List.forall_mem_cons.mpr ⟨d_85, List.forall_mem_cons.mpr ⟨d_86, List.forall_mem_cons.mpr ⟨d_87, List.forall_mem_cons.mpr ⟨d_88, List.forall_mem_cons.mpr ⟨d_89, List.forall_mem_cons.mpr ⟨d_90, List.forall_mem_cons.mpr ⟨d_91, List.forall_mem_cons.mpr ⟨d_92, List.forall_mem_cons.mpr ⟨d_93, List.forall_mem_cons.mpr ⟨d_94, List.forall_mem_cons.mpr ⟨d_95, List.forall_mem_cons.mpr ⟨d_96, List.forall_mem_cons.mpr ⟨d_97, List.forall_mem_cons.mpr ⟨d_98, List.forall_mem_cons.mpr ⟨d_99, List.forall_mem_cons.mpr ⟨d_100, List.forall_mem_cons.mpr ⟨d_101, List.forall_mem_cons.mpr ⟨d_102, List.forall_mem_cons.mpr ⟨d_103, List.forall_mem_cons.mpr ⟨d_104, List.forall_mem_cons.mpr ⟨d_105, List.forall_mem_cons.mpr ⟨d_106, List.forall_mem_cons.mpr ⟨d_107, List.forall_mem_cons.mpr ⟨d_108, List.forall_mem_cons.mpr ⟨d_109, fun _ h => absurd h List.not_mem_nil⟩⟩⟩⟩⟩⟩⟩⟩⟩⟩⟩⟩⟩⟩⟩⟩⟩⟩⟩⟩⟩⟩⟩⟩⟩⟩⟩⟩⟩⟩⟩⟩⟩⟩⟩⟩⟩⟩⟩⟩⟩⟩⟩⟩⟩⟩⟩⟩⟩⟩⟩⟩⟩⟩⟩⟩⟩⟩⟩⟩⟩⟩⟩⟩⟩⟩⟩⟩⟩⟩⟩⟩⟩⟩⟩⟩⟩⟩⟩⟩⟩⟩⟩⟩⟩⟩⟩⟩⟩⟩⟩⟩⟩⟩⟩⟩⟩⟩⟩⟩⟩⟩⟩⟩⟩⟩⟩⟩⟩⟩
theorem tb_zip : t_tabs.zip t_bL = [(c_0, prog_1_method_1_code), (c_1, prog_1_method_2_code), (c_2, prog_1_method_3_code), (c_3, prog_1_method_4_code), (c_4, prog_1_method_5_code), (c_5, prog_1_method_6_code), (c_6, prog_1_method_7_code), (c_7, prog_1_method_8_code), (c_8, prog_1_method_9_code), (c_9, prog_1_method_10_code), (c_10, prog_1_method_11_code), (c_11, prog_1_method_12_code), (c_12, prog_1_method_13_code), (c_13, prog_1_method_14_code), (c_14, prog_1_method_15_code), (c_15, prog_1_method_16_code), (c_16, prog_1_method_17_code), (c_17, prog_1_method_18_code), (c_18, prog_1_method_19_code), (c_19, prog_1_method_20_code), (c_20, prog_1_method_21_code), (c_21, prog_1_method_22_code), (c_22, prog_1_method_23_code), (c_23, prog_1_method_24_code), (c_24, prog_1_method_25_code), (c_25, prog_1_method_26_code), (c_26, prog_1_method_27_code), (c_27, prog_1_method_28_code), (c_28, prog_1_method_29_code), (c_29, prog_1_method_30_code), (c_30, prog_1_method_31_code), (c_31, prog_1_method_32_code), (c_32, prog_1_method_33_code), (c_33, prog_1_method_34_code), (c_34, prog_1_method_35_code), (c_35, prog_1_method_36_code), (c_36, prog_1_method_37_code), (c_37, prog_1_method_38_code), (c_38, prog_1_method_39_code), (c_39, prog_3_method_1_code), (c_40, prog_3_method_2_code), (c_41, prog_3_method_3_code), (c_42, prog_3_method_4_code), (c_43, prog_3_method_5_code), (c_44, prog_3_method_6_code), (c_45, prog_3_method_7_code), (c_46, prog_2_method_1_code), (c_47, prog_2_method_2_code), (c_48, prog_2_method_3_code), (c_49, prog_2_method_4_code), (c_50, prog_4_method_1_code), (c_51, prog_4_method_2_code), (c_52, prog_4_method_3_code), (c_53, prog_6_method_1_code), (c_54, prog_6_method_2_code), (c_55, prog_6_method_3_code), (c_56, prog_6_method_4_code), (c_57, prog_6_method_5_code), (c_58, prog_6_method_6_code), (c_59, prog_6_method_7_code), (c_60, prog_6_method_8_code), (c_61, prog_6_method_9_code), (c_62, prog_6_method_10_code), (c_63, prog_6_method_11_code), (c_64, prog_6_method_12_code), (c_65, prog_6_method_13_code), (c_66, prog_6_method_14_code), (c_67, prog_6_method_15_code), (c_68, prog_6_method_16_code), (c_69, prog_6_method_17_code), (c_70, prog_6_method_18_code), (c_71, prog_6_method_19_code), (c_72, prog_6_method_20_code), (c_73, prog_6_method_21_code), (c_74, prog_6_method_22_code), (c_75, prog_6_method_23_code), (c_76, prog_6_method_24_code), (c_77, prog_6_method_25_code), (c_78, prog_6_method_26_code), (c_79, prog_6_method_27_code), (c_80, prog_6_method_28_code), (c_81, prog_6_method_29_code), (c_82, prog_6_method_30_code), (c_83, prog_6_method_31_code), (c_84, prog_6_method_32_code), (c_85, prog_6_method_33_code), (c_86, prog_6_method_34_code), (c_87, prog_6_method_35_code), (c_88, prog_6_method_36_code), (c_89, prog_6_method_37_code), (c_90, prog_6_method_38_code), (c_91, prog_6_method_39_code), (c_92, prog_6_method_40_code), (c_93, prog_6_method_41_code), (c_94, prog_6_method_42_code), (c_95, method_3_code), (c_96, method_4_code), (c_97, method_5_code), (c_98, method_6_code), (c_99, method_7_code), (c_100, method_8_code), (c_101, method_9_code), (c_102, method_10_code), (c_103, method_11_code), (c_104, method_12_code), (c_105, method_13_code), (c_106, method_14_code), (c_107, method_15_code), (c_108, method_16_code), (c_109, method_17_code)] := rfl
theorem tb_cod0 {k pc : Nat} {x : Instr × Nat} (h : t_cod k pc = some x) : decode (t_b k) pc = .ok x := by
  unfold t_cod at h
  cases hk : Nat.beq k 110 with
  | true =>
    rw [hk] at h
    have e := Nat.eq_of_beq_eq_true hk
    subst e
    exact tb_codL h
  | false =>
    rw [hk] at h
    dsimp only [cond_false] at h
    cases hc : t_tabs[k]? with
    | none => rw [hc] at h; cases h
    | some c =>
      rw [hc] at h
      have hlt : k < t_tabs.length := (List.getElem?_eq_some_iff.mp hc).1
      have hlt2 : k < t_bL.length := hlt
      have hb : t_bL[k]? = some (t_b k) := by
        rw [List.getElem?_eq_getElem hlt2]
        unfold t_b
        rw [List.getD_eq_getElem?_getD, List.getElem?_eq_getElem hlt2]
        rfl
      have hz : (t_tabs.zip t_bL)[k]? = some (c, t_b k) := List.getElem?_zip_eq_some.mpr ⟨hc, hb⟩
      rw [tb_zip] at hz
      have h5 := tb_tabs (c, t_b k) (List.mem_of_getElem? hz)
      dsimp only at h5
      exact mm_dec h5 h
theorem tb_cod {k pc : Nat} {i : Instr} {len : Nat} (h : t_cod k pc = some (i, len)) : decode (t_b k) pc = .ok (i, len) := tb_cod0 h
