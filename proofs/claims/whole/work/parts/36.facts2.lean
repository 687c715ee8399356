theorem tb_c1 : t_cl[1]? = some ("TrusteeDesk$Claim", F_1, 9) := rfl
theorem tb_c2 : t_cl[2]? = some ("TrusteeDesk$Asset", F_2, 4) := rfl
theorem tb_ci {o idx : Nat} {x : Int32} (h : t_ci o idx = some x) : Jvm.Cond.constant (t_on o) idx x ∈ tb_Ts := by cases h
theorem tb_cj {o idx : Nat} {x : Int64} (h : t_cj o idx = some x) : Jvm.Cond.constantLong (t_on o) idx x ∈ tb_Ts := by
  unfold t_cj at h
  split at h
  · cases h; exact tb_in (i := 98) (by decide +kernel) rfl
  · cases h; exact tb_in (i := 188) (by decide +kernel) rfl
  · cases h; exact tb_in (i := 401) (by decide +kernel) rfl
  · cases h; exact tb_in (i := 632) (by decide +kernel) rfl
  · cases h; exact tb_in (i := 636) (by decide +kernel) rfl
  · cases h; exact tb_in (i := 697) (by decide +kernel) rfl
  · cases h; exact tb_in (i := 762) (by decide +kernel) rfl
  · cases h; exact tb_in (i := 771) (by decide +kernel) rfl
  · cases h; exact tb_in (i := 788) (by decide +kernel) rfl
  · cases h; exact tb_in (i := 789) (by decide +kernel) rfl
  · cases h
theorem tb_obi {o idx : Nat} (h : t_obi o idx = true) : Cond.methodLink (t_on o) idx Lib.objectInit ∈ tb_Ts := by
  unfold t_obi at h
  split at h
  · exact tb_in (i := 19) (by decide +kernel) rfl
  · exact tb_in (i := 31) (by decide +kernel) rfl
  · exact tb_in (i := 230) (by decide +kernel) rfl
  · exact tb_in (i := 314) (by decide +kernel) rfl
  · exact tb_in (i := 540) (by decide +kernel) rfl
  · cases h
theorem tb_ob1 : Cond.instanceMethod Lib.objectInit ∈ tb_Ts := tb_in (i := 20) (by decide +kernel) rfl
theorem tb_ob2 : Cond.code Lib.objectInit ⟨#[0xb1]⟩ 1 none ∈ tb_Ts := tb_in (i := 21) (by decide +kernel) rfl
theorem tb_mx1 {o idx : Nat} (h : t_mx o idx = some true) : Cond.methodLink (t_on o) idx Lib.MathLoose.max_long.x ∈ tb_Ts := by
  unfold t_mx at h
  split at h
  · exact tb_in (i := 378) (by decide +kernel) rfl
  · cases h
  · exact tb_in (i := 402) (by decide +kernel) rfl
  · cases h
theorem tb_mn1 {o idx : Nat} (h : t_mx o idx = some false) : Cond.methodLink (t_on o) idx Lib.MathLoose.min_long.x ∈ tb_Ts := by
  unfold t_mx at h
  split at h
  · cases h
  · exact tb_in (i := 381) (by decide +kernel) rfl
  · cases h
  · cases h
theorem tb_mxs : Cond.static Lib.MathLoose.max_long.x ∈ tb_Ts := tb_in (i := 379) (by decide +kernel) rfl
theorem tb_mns : Cond.static Lib.MathLoose.min_long.x ∈ tb_Ts := tb_in (i := 382) (by decide +kernel) rfl
theorem tb_mxc : Cond.code Lib.MathLoose.max_long.x Lib.MathLoose.max_long.code 4 (some .long) ∈ tb_Ts := tb_in (i := 380) (by decide +kernel) rfl
theorem tb_mnc : Cond.code Lib.MathLoose.min_long.x Lib.MathLoose.min_long.code 4 (some .long) ∈ tb_Ts := tb_in (i := 383) (by decide +kernel) rfl
theorem tb_mxi : Cond.initialized "java/lang/Math" ∈ tb_Ts := tb_in (i := 13) (by decide +kernel) rfl
theorem tb_cls {o idx ci : Nat} (h : t_cls o idx = some ci) : ∃ C T, t_cl[ci]? = some (C, T, t_N ci) ∧ Cond.classLink (t_on o) idx C ∈ tb_Ts ∧ Cond.instantiable C (t_N ci) ∈ tb_Ts ∧ Cond.initialized C ∈ tb_Ts := by
  unfold t_cls at h
  split at h
  · cases h; exact ⟨"TrusteeDesk", F_0, rfl, tb_in (i := 14) (by decide +kernel) rfl, tb_in (i := 15) (by decide +kernel) rfl, tb_in (i := 1) (by decide +kernel) rfl⟩
  · cases h; exact ⟨"TrusteeDesk$Claim", F_1, rfl, tb_in (i := 22) (by decide +kernel) rfl, tb_in (i := 226) (by decide +kernel) rfl, tb_in (i := 10) (by decide +kernel) rfl⟩
  · cases h; exact ⟨"TrusteeDesk$Asset", F_2, rfl, tb_in (i := 24) (by decide +kernel) rfl, tb_in (i := 310) (by decide +kernel) rfl, tb_in (i := 12) (by decide +kernel) rfl⟩
  · cases h; exact ⟨"TrusteeDesk$Journal", F_3, rfl, tb_in (i := 26) (by decide +kernel) rfl, tb_in (i := 27) (by decide +kernel) rfl, tb_in (i := 2) (by decide +kernel) rfl⟩
  · cases h; exact ⟨"TrusteeDeskModel", F_4, rfl, tb_in (i := 535) (by decide +kernel) rfl, tb_in (i := 536) (by decide +kernel) rfl, tb_in (i := 3) (by decide +kernel) rfl⟩
  · cases h
theorem tb_at {ty : ArrayType} {t : Nat} (h : t_at ty = some t) : t < 3 ∧ newarray.typeOf ty = mm_ty t ∧ Cond.arrayClass (mm_ty t) ∈ tb_Ts := by
  unfold t_at at h
  split at h
  · cases h; exact ⟨by omega, rfl, tb_in (i := 49) (by decide +kernel) rfl⟩
  · cases h; exact ⟨by omega, rfl, tb_in (i := 50) (by decide +kernel) rfl⟩
  · cases h; exact ⟨by omega, rfl, tb_in (i := 620) (by decide +kernel) rfl⟩
  · cases h
theorem tb_ary {o idx t : Nat} (h : t_ary o idx = some t) : ∃ C, t < 5 ∧ mm_ty t = .object C ∧ Cond.classLink (t_on o) idx C ∈ tb_Ts ∧ Cond.arrayOver (.object C) ∈ tb_Ts := by
  unfold t_ary at h
  split at h
  · cases h; exact ⟨"TrusteeDesk$Claim", by omega, rfl, tb_in (i := 22) (by decide +kernel) rfl, tb_in (i := 23) (by decide +kernel) rfl⟩
  · cases h; exact ⟨"TrusteeDesk$Asset", by omega, rfl, tb_in (i := 24) (by decide +kernel) rfl, tb_in (i := 25) (by decide +kernel) rfl⟩
  · cases h; exact ⟨"TrusteeDesk$Claim", by omega, rfl, tb_in (i := 315) (by decide +kernel) rfl, tb_in (i := 23) (by decide +kernel) rfl⟩
  · cases h
def t_ip : List Nat := [17, 110, 274, 306, 336, 358, 411, 419, 428, 436, 466, 473, 480, 511, 519, 83, 100, 526, 208, 114, 186, 279, 341, 394, 442, 447, 456, 460, 372, 386, 405, 486, 490, 498, 501, 505, 88, 92, 96, 228, 389, 298, 375, 397, 450, 493, 312, 351, 346, 362, 29, 367, 530, 538, 622, 634, 643, 659, 630, 675, 679, 663, 687, 647, 695, 691, 728, 736, 700, 683, 626, 638, 650, 654, 671, 666, 703, 707, 711, 720, 724, 715, 732, 739, 743, 752, 765, 760, 756, 747, 768, 773, 777, 781, 785, 104, 270, 303, 333, 355, 408, 416, 425, 433, 463, 470, 477, 508, 516, 523]
def t_sp : List Nat := [0, 151, 315, 347, 377, 399, 452, 460, 469, 477, 507, 514, 521, 552, 560, 124, 141, 567, 4, 0, 0, 5, 6, 9, 11, 12, 13, 14, 7, 8, 10, 15, 16, 17, 0, 18, 0, 1, 2, 0, 430, 339, 416, 438, 491, 534, 0, 392, 387, 403, 0, 408, 571, 0, 663, 0, 19, 21, 0, 24, 25, 22, 27, 20, 29, 28, 33, 35, 30, 26, 667, 679, 691, 695, 23, 707, 744, 748, 752, 31, 32, 756, 34, 780, 784, 36, 39, 38, 37, 788, 809, 814, 818, 822, 826, 0, 0, 0, 0, 0, 0, 0, 0, 0, 0, 0, 0, 0, 0, 0]
def t_np : List Nat := [1, 10, 12, 2, 3, 0]
def mm_mck (e : Nat × Nat × Nat × Nat × Nat × Nat) : Bool :=
  decide (tables_1[e.2.2.2.2.2]? = some (Cond.methodLink (t_on e.1) e.2.1 (t_y e.2.2.1))) && (decide ((parseMethodDescriptor (t_y e.2.2.1).desc).map (fun d => d.parameters.length) = some e.2.2.2.1) && (decide ((t_y e.2.2.1).cls ≠ "java/lang/invoke/MethodHandle" ∧ (t_y e.2.2.1).cls ≠ "java/lang/invoke/VarHandle") && (plainFor (t_y e.2.2.1) && (Nat.ble (t_nl e.2.2.1) 13 &&
    (match e.2.2.2.2.1 with
    | 0 => decide (tables_1[t_ip.getD e.2.2.1 0]? = some (Cond.static (t_y e.2.2.1))) && decide (tables_1[t_np.getD (t_o e.2.2.1) 0]? = some (Cond.initialized (t_y e.2.2.1).cls))
    | 1 => decide (tables_1[t_ip.getD e.2.2.1 0]? = some (Cond.instanceMethod (t_y e.2.2.1))) && (decide (lw_tbl[t_sp.getD e.2.2.1 0]? = some (Cond.selects (t_y e.2.2.1).cls (t_y e.2.2.1) (t_y e.2.2.1))) && decide ((t_cl[t_rc e.2.2.1]?).map (fun q => q.1) = some (t_y e.2.2.1).cls))
    | _ => decide (tables_1[t_ip.getD e.2.2.1 0]? = some (Cond.instanceMethod (t_y e.2.2.1))) && (decide ((t_y e.2.2.1).name = "<init>") && ((t_hh e.2.2.1).isEmpty && (t_rt e.2.2.1).isNone)))))))
theorem tb_mck : ∀ e ∈ t_mthL, mm_mck e = true := by decide +kernel
set_option maxRecDepth 20000 in
theorem tb_cw0 : mm_cw (t_y 0) (t_b 0) (t_nl 0) (t_rt 0) (t_hh 0) ∈ tb_Ts := tb_in (i := 18) rfl rfl
set_option maxRecDepth 20000 in
theorem tb_cw1 : mm_cw (t_y 1) (t_b 1) (t_nl 1) (t_rt 1) (t_hh 1) ∈ tb_Ts := tb_in (i := 112) rfl rfl
set_option maxRecDepth 20000 in
theorem tb_cw2 : mm_cw (t_y 2) (t_b 2) (t_nl 2) (t_rt 2) (t_hh 2) ∈ tb_Ts := tb_in (i := 276) rfl rfl
set_option maxRecDepth 20000 in
theorem tb_cw3 : mm_cw (t_y 3) (t_b 3) (t_nl 3) (t_rt 3) (t_hh 3) ∈ tb_Ts := tb_in (i := 308) rfl rfl
set_option maxRecDepth 20000 in
theorem tb_cw4 : mm_cw (t_y 4) (t_b 4) (t_nl 4) (t_rt 4) (t_hh 4) ∈ tb_Ts := tb_in (i := 338) rfl rfl
set_option maxRecDepth 20000 in
theorem tb_cw5 : mm_cw (t_y 5) (t_b 5) (t_nl 5) (t_rt 5) (t_hh 5) ∈ tb_Ts := tb_in (i := 360) rfl rfl
set_option maxRecDepth 20000 in
theorem tb_cw6 : mm_cw (t_y 6) (t_b 6) (t_nl 6) (t_rt 6) (t_hh 6) ∈ tb_Ts := tb_in (i := 413) rfl rfl
set_option maxRecDepth 20000 in
theorem tb_cw7 : mm_cw (t_y 7) (t_b 7) (t_nl 7) (t_rt 7) (t_hh 7) ∈ tb_Ts := tb_in (i := 421) rfl rfl
set_option maxRecDepth 20000 in
theorem tb_cw8 : mm_cw (t_y 8) (t_b 8) (t_nl 8) (t_rt 8) (t_hh 8) ∈ tb_Ts := tb_in (i := 430) rfl rfl
set_option maxRecDepth 20000 in
theorem tb_cw9 : mm_cw (t_y 9) (t_b 9) (t_nl 9) (t_rt 9) (t_hh 9) ∈ tb_Ts := tb_in (i := 438) rfl rfl
set_option maxRecDepth 20000 in
theorem tb_cw10 : mm_cw (t_y 10) (t_b 10) (t_nl 10) (t_rt 10) (t_hh 10) ∈ tb_Ts := tb_in (i := 468) rfl rfl
set_option maxRecDepth 20000 in
theorem tb_cw11 : mm_cw (t_y 11) (t_b 11) (t_nl 11) (t_rt 11) (t_hh 11) ∈ tb_Ts := tb_in (i := 475) rfl rfl
set_option maxRecDepth 20000 in
theorem tb_cw12 : mm_cw (t_y 12) (t_b 12) (t_nl 12) (t_rt 12) (t_hh 12) ∈ tb_Ts := tb_in (i := 482) rfl rfl
set_option maxRecDepth 20000 in
theorem tb_cw13 : mm_cw (t_y 13) (t_b 13) (t_nl 13) (t_rt 13) (t_hh 13) ∈ tb_Ts := tb_in (i := 513) rfl rfl
set_option maxRecDepth 20000 in
theorem tb_cw14 : mm_cw (t_y 14) (t_b 14) (t_nl 14) (t_rt 14) (t_hh 14) ∈ tb_Ts := tb_in (i := 521) rfl rfl
set_option maxRecDepth 20000 in
theorem tb_cw15 : mm_cw (t_y 15) (t_b 15) (t_nl 15) (t_rt 15) (t_hh 15) ∈ tb_Ts := tb_in (i := 85) rfl rfl
set_option maxRecDepth 20000 in
theorem tb_cw16 : mm_cw (t_y 16) (t_b 16) (t_nl 16) (t_rt 16) (t_hh 16) ∈ tb_Ts := tb_in (i := 102) rfl rfl
set_option maxRecDepth 20000 in
theorem tb_cw17 : mm_cw (t_y 17) (t_b 17) (t_nl 17) (t_rt 17) (t_hh 17) ∈ tb_Ts := tb_in (i := 528) rfl rfl
set_option maxRecDepth 20000 in
theorem tb_cw18 : mm_cw (t_y 18) (t_b 18) (t_nl 18) (t_rt 18) (t_hh 18) ∈ tb_Ts := tb_in (i := 209) rfl rfl
set_option maxRecDepth 20000 in
theorem tb_cw19 : mm_cw (t_y 19) (t_b 19) (t_nl 19) (t_rt 19) (t_hh 19) ∈ tb_Ts := tb_in (i := 115) rfl rfl
set_option maxRecDepth 20000 in
theorem tb_cw20 : mm_cw (t_y 20) (t_b 20) (t_nl 20) (t_rt 20) (t_hh 20) ∈ tb_Ts := tb_in (i := 187) rfl rfl
set_option maxRecDepth 20000 in
theorem tb_cw21 : mm_cw (t_y 21) (t_b 21) (t_nl 21) (t_rt 21) (t_hh 21) ∈ tb_Ts := tb_in (i := 280) rfl rfl
set_option maxRecDepth 20000 in
theorem tb_cw22 : mm_cw (t_y 22) (t_b 22) (t_nl 22) (t_rt 22) (t_hh 22) ∈ tb_Ts := tb_in (i := 342) rfl rfl
set_option maxRecDepth 20000 in
theorem tb_cw23 : mm_cw (t_y 23) (t_b 23) (t_nl 23) (t_rt 23) (t_hh 23) ∈ tb_Ts := tb_in (i := 395) rfl rfl
set_option maxRecDepth 20000 in
theorem tb_cw24 : mm_cw (t_y 24) (t_b 24) (t_nl 24) (t_rt 24) (t_hh 24) ∈ tb_Ts := tb_in (i := 443) rfl rfl
set_option maxRecDepth 20000 in
theorem tb_cw25 : mm_cw (t_y 25) (t_b 25) (t_nl 25) (t_rt 25) (t_hh 25) ∈ tb_Ts := tb_in (i := 448) rfl rfl
set_option maxRecDepth 20000 in
theorem tb_cw26 : mm_cw (t_y 26) (t_b 26) (t_nl 26) (t_rt 26) (t_hh 26) ∈ tb_Ts := tb_in (i := 457) rfl rfl
set_option maxRecDepth 20000 in
theorem tb_cw27 : mm_cw (t_y 27) (t_b 27) (t_nl 27) (t_rt 27) (t_hh 27) ∈ tb_Ts := tb_in (i := 461) rfl rfl
set_option maxRecDepth 20000 in
theorem tb_cw28 : mm_cw (t_y 28) (t_b 28) (t_nl 28) (t_rt 28) (t_hh 28) ∈ tb_Ts := tb_in (i := 373) rfl rfl
set_option maxRecDepth 20000 in
theorem tb_cw29 : mm_cw (t_y 29) (t_b 29) (t_nl 29) (t_rt 29) (t_hh 29) ∈ tb_Ts := tb_in (i := 387) rfl rfl
set_option maxRecDepth 20000 in
theorem tb_cw30 : mm_cw (t_y 30) (t_b 30) (t_nl 30) (t_rt 30) (t_hh 30) ∈ tb_Ts := tb_in (i := 406) rfl rfl
set_option maxRecDepth 20000 in
theorem tb_cw31 : mm_cw (t_y 31) (t_b 31) (t_nl 31) (t_rt 31) (t_hh 31) ∈ tb_Ts := tb_in (i := 487) rfl rfl
set_option maxRecDepth 20000 in
theorem tb_cw32 : mm_cw (t_y 32) (t_b 32) (t_nl 32) (t_rt 32) (t_hh 32) ∈ tb_Ts := tb_in (i := 491) rfl rfl
set_option maxRecDepth 20000 in
theorem tb_cw33 : mm_cw (t_y 33) (t_b 33) (t_nl 33) (t_rt 33) (t_hh 33) ∈ tb_Ts := tb_in (i := 499) rfl rfl
set_option maxRecDepth 20000 in
theorem tb_cw34 : mm_cw (t_y 34) (t_b 34) (t_nl 34) (t_rt 34) (t_hh 34) ∈ tb_Ts := tb_in (i := 502) rfl rfl
set_option maxRecDepth 20000 in
theorem tb_cw35 : mm_cw (t_y 35) (t_b 35) (t_nl 35) (t_rt 35) (t_hh 35) ∈ tb_Ts := tb_in (i := 506) rfl rfl
set_option maxRecDepth 20000 in
theorem tb_cw36 : mm_cw (t_y 36) (t_b 36) (t_nl 36) (t_rt 36) (t_hh 36) ∈ tb_Ts := tb_in (i := 89) rfl rfl
set_option maxRecDepth 20000 in
theorem tb_cw37 : mm_cw (t_y 37) (t_b 37) (t_nl 37) (t_rt 37) (t_hh 37) ∈ tb_Ts := tb_in (i := 93) rfl rfl
set_option maxRecDepth 20000 in
theorem tb_cw38 : mm_cw (t_y 38) (t_b 38) (t_nl 38) (t_rt 38) (t_hh 38) ∈ tb_Ts := tb_in (i := 97) rfl rfl
set_option maxRecDepth 20000 in
theorem tb_cw39 : mm_cw (t_y 39) (t_b 39) (t_nl 39) (t_rt 39) (t_hh 39) ∈ tb_Ts := tb_in (i := 229) rfl rfl
set_option maxRecDepth 20000 in
theorem tb_cw40 : mm_cw (t_y 40) (t_b 40) (t_nl 40) (t_rt 40) (t_hh 40) ∈ tb_Ts := tb_in (i := 391) rfl rfl
set_option maxRecDepth 20000 in
theorem tb_cw41 : mm_cw (t_y 41) (t_b 41) (t_nl 41) (t_rt 41) (t_hh 41) ∈ tb_Ts := tb_in (i := 300) rfl rfl
set_option maxRecDepth 20000 in
theorem tb_cw42 : mm_cw (t_y 42) (t_b 42) (t_nl 42) (t_rt 42) (t_hh 42) ∈ tb_Ts := tb_in (i := 377) rfl rfl
set_option maxRecDepth 20000 in
theorem tb_cw43 : mm_cw (t_y 43) (t_b 43) (t_nl 43) (t_rt 43) (t_hh 43) ∈ tb_Ts := tb_in (i := 399) rfl rfl
set_option maxRecDepth 20000 in
theorem tb_cw44 : mm_cw (t_y 44) (t_b 44) (t_nl 44) (t_rt 44) (t_hh 44) ∈ tb_Ts := tb_in (i := 452) rfl rfl
set_option maxRecDepth 20000 in
theorem tb_cw45 : mm_cw (t_y 45) (t_b 45) (t_nl 45) (t_rt 45) (t_hh 45) ∈ tb_Ts := tb_in (i := 495) rfl rfl
set_option maxRecDepth 20000 in
theorem tb_cw46 : mm_cw (t_y 46) (t_b 46) (t_nl 46) (t_rt 46) (t_hh 46) ∈ tb_Ts := tb_in (i := 313) rfl rfl
set_option maxRecDepth 20000 in
theorem tb_cw47 : mm_cw (t_y 47) (t_b 47) (t_nl 47) (t_rt 47) (t_hh 47) ∈ tb_Ts := tb_in (i := 353) rfl rfl
set_option maxRecDepth 20000 in
theorem tb_cw48 : mm_cw (t_y 48) (t_b 48) (t_nl 48) (t_rt 48) (t_hh 48) ∈ tb_Ts := tb_in (i := 348) rfl rfl
set_option maxRecDepth 20000 in
theorem tb_cw49 : mm_cw (t_y 49) (t_b 49) (t_nl 49) (t_rt 49) (t_hh 49) ∈ tb_Ts := tb_in (i := 364) rfl rfl
set_option maxRecDepth 20000 in
theorem tb_cw50 : mm_cw (t_y 50) (t_b 50) (t_nl 50) (t_rt 50) (t_hh 50) ∈ tb_Ts := tb_in (i := 30) rfl rfl
set_option maxRecDepth 20000 in
theorem tb_cw51 : mm_cw (t_y 51) (t_b 51) (t_nl 51) (t_rt 51) (t_hh 51) ∈ tb_Ts := tb_in (i := 369) rfl rfl
set_option maxRecDepth 20000 in
theorem tb_cw52 : mm_cw (t_y 52) (t_b 52) (t_nl 52) (t_rt 52) (t_hh 52) ∈ tb_Ts := tb_in (i := 532) rfl rfl
set_option maxRecDepth 20000 in
theorem tb_cw53 : mm_cw (t_y 53) (t_b 53) (t_nl 53) (t_rt 53) (t_hh 53) ∈ tb_Ts := tb_in (i := 539) rfl rfl
set_option maxRecDepth 20000 in
theorem tb_cw54 : mm_cw (t_y 54) (t_b 54) (t_nl 54) (t_rt 54) (t_hh 54) ∈ tb_Ts := tb_in (i := 624) rfl rfl
set_option maxRecDepth 20000 in
theorem tb_cw55 : mm_cw (t_y 55) (t_b 55) (t_nl 55) (t_rt 55) (t_hh 55) ∈ tb_Ts := tb_in (i := 635) rfl rfl
set_option maxRecDepth 20000 in
theorem tb_cw56 : mm_cw (t_y 56) (t_b 56) (t_nl 56) (t_rt 56) (t_hh 56) ∈ tb_Ts := tb_in (i := 644) rfl rfl
set_option maxRecDepth 20000 in
theorem tb_cw57 : mm_cw (t_y 57) (t_b 57) (t_nl 57) (t_rt 57) (t_hh 57) ∈ tb_Ts := tb_in (i := 660) rfl rfl
set_option maxRecDepth 20000 in
theorem tb_cw58 : mm_cw (t_y 58) (t_b 58) (t_nl 58) (t_rt 58) (t_hh 58) ∈ tb_Ts := tb_in (i := 631) rfl rfl
set_option maxRecDepth 20000 in
theorem tb_cw59 : mm_cw (t_y 59) (t_b 59) (t_nl 59) (t_rt 59) (t_hh 59) ∈ tb_Ts := tb_in (i := 676) rfl rfl
set_option maxRecDepth 20000 in
theorem tb_cw60 : mm_cw (t_y 60) (t_b 60) (t_nl 60) (t_rt 60) (t_hh 60) ∈ tb_Ts := tb_in (i := 680) rfl rfl
set_option maxRecDepth 20000 in
theorem tb_cw61 : mm_cw (t_y 61) (t_b 61) (t_nl 61) (t_rt 61) (t_hh 61) ∈ tb_Ts := tb_in (i := 664) rfl rfl
set_option maxRecDepth 20000 in
theorem tb_cw62 : mm_cw (t_y 62) (t_b 62) (t_nl 62) (t_rt 62) (t_hh 62) ∈ tb_Ts := tb_in (i := 688) rfl rfl
set_option maxRecDepth 20000 in
theorem tb_cw63 : mm_cw (t_y 63) (t_b 63) (t_nl 63) (t_rt 63) (t_hh 63) ∈ tb_Ts := tb_in (i := 648) rfl rfl
set_option maxRecDepth 20000 in
theorem tb_cw64 : mm_cw (t_y 64) (t_b 64) (t_nl 64) (t_rt 64) (t_hh 64) ∈ tb_Ts := tb_in (i := 696) rfl rfl
set_option maxRecDepth 20000 in
theorem tb_cw65 : mm_cw (t_y 65) (t_b 65) (t_nl 65) (t_rt 65) (t_hh 65) ∈ tb_Ts := tb_in (i := 692) rfl rfl
set_option maxRecDepth 20000 in
theorem tb_cw66 : mm_cw (t_y 66) (t_b 66) (t_nl 66) (t_rt 66) (t_hh 66) ∈ tb_Ts := tb_in (i := 729) rfl rfl
set_option maxRecDepth 20000 in
theorem tb_cw67 : mm_cw (t_y 67) (t_b 67) (t_nl 67) (t_rt 67) (t_hh 67) ∈ tb_Ts := tb_in (i := 737) rfl rfl
set_option maxRecDepth 20000 in
theorem tb_cw68 : mm_cw (t_y 68) (t_b 68) (t_nl 68) (t_rt 68) (t_hh 68) ∈ tb_Ts := tb_in (i := 701) rfl rfl
set_option maxRecDepth 20000 in
theorem tb_cw69 : mm_cw (t_y 69) (t_b 69) (t_nl 69) (t_rt 69) (t_hh 69) ∈ tb_Ts := tb_in (i := 684) rfl rfl
set_option maxRecDepth 20000 in
theorem tb_cw70 : mm_cw (t_y 70) (t_b 70) (t_nl 70) (t_rt 70) (t_hh 70) ∈ tb_Ts := tb_in (i := 628) rfl rfl
set_option maxRecDepth 20000 in
theorem tb_cw71 : mm_cw (t_y 71) (t_b 71) (t_nl 71) (t_rt 71) (t_hh 71) ∈ tb_Ts := tb_in (i := 640) rfl rfl
set_option maxRecDepth 20000 in
theorem tb_cw72 : mm_cw (t_y 72) (t_b 72) (t_nl 72) (t_rt 72) (t_hh 72) ∈ tb_Ts := tb_in (i := 652) rfl rfl
set_option maxRecDepth 20000 in
theorem tb_cw73 : mm_cw (t_y 73) (t_b 73) (t_nl 73) (t_rt 73) (t_hh 73) ∈ tb_Ts := tb_in (i := 656) rfl rfl
set_option maxRecDepth 20000 in
theorem tb_cw74 : mm_cw (t_y 74) (t_b 74) (t_nl 74) (t_rt 74) (t_hh 74) ∈ tb_Ts := tb_in (i := 672) rfl rfl
set_option maxRecDepth 20000 in
theorem tb_cw75 : mm_cw (t_y 75) (t_b 75) (t_nl 75) (t_rt 75) (t_hh 75) ∈ tb_Ts := tb_in (i := 668) rfl rfl
set_option maxRecDepth 20000 in
theorem tb_cw76 : mm_cw (t_y 76) (t_b 76) (t_nl 76) (t_rt 76) (t_hh 76) ∈ tb_Ts := tb_in (i := 705) rfl rfl
set_option maxRecDepth 20000 in
theorem tb_cw77 : mm_cw (t_y 77) (t_b 77) (t_nl 77) (t_rt 77) (t_hh 77) ∈ tb_Ts := tb_in (i := 709) rfl rfl
set_option maxRecDepth 20000 in
theorem tb_cw78 : mm_cw (t_y 78) (t_b 78) (t_nl 78) (t_rt 78) (t_hh 78) ∈ tb_Ts := tb_in (i := 713) rfl rfl
set_option maxRecDepth 20000 in
theorem tb_cw79 : mm_cw (t_y 79) (t_b 79) (t_nl 79) (t_rt 79) (t_hh 79) ∈ tb_Ts := tb_in (i := 721) rfl rfl
set_option maxRecDepth 20000 in
theorem tb_cw80 : mm_cw (t_y 80) (t_b 80) (t_nl 80) (t_rt 80) (t_hh 80) ∈ tb_Ts := tb_in (i := 725) rfl rfl
set_option maxRecDepth 20000 in
theorem tb_cw81 : mm_cw (t_y 81) (t_b 81) (t_nl 81) (t_rt 81) (t_hh 81) ∈ tb_Ts := tb_in (i := 717) rfl rfl
set_option maxRecDepth 20000 in
theorem tb_cw82 : mm_cw (t_y 82) (t_b 82) (t_nl 82) (t_rt 82) (t_hh 82) ∈ tb_Ts := tb_in (i := 733) rfl rfl
set_option maxRecDepth 20000 in
theorem tb_cw83 : mm_cw (t_y 83) (t_b 83) (t_nl 83) (t_rt 83) (t_hh 83) ∈ tb_Ts := tb_in (i := 741) rfl rfl
set_option maxRecDepth 20000 in
theorem tb_cw84 : mm_cw (t_y 84) (t_b 84) (t_nl 84) (t_rt 84) (t_hh 84) ∈ tb_Ts := tb_in (i := 745) rfl rfl
set_option maxRecDepth 20000 in
theorem tb_cw85 : mm_cw (t_y 85) (t_b 85) (t_nl 85) (t_rt 85) (t_hh 85) ∈ tb_Ts := tb_in (i := 753) rfl rfl
set_option maxRecDepth 20000 in
theorem tb_cw86 : mm_cw (t_y 86) (t_b 86) (t_nl 86) (t_rt 86) (t_hh 86) ∈ tb_Ts := tb_in (i := 766) rfl rfl
set_option maxRecDepth 20000 in
theorem tb_cw87 : mm_cw (t_y 87) (t_b 87) (t_nl 87) (t_rt 87) (t_hh 87) ∈ tb_Ts := tb_in (i := 761) rfl rfl
set_option maxRecDepth 20000 in
theorem tb_cw88 : mm_cw (t_y 88) (t_b 88) (t_nl 88) (t_rt 88) (t_hh 88) ∈ tb_Ts := tb_in (i := 757) rfl rfl
set_option maxRecDepth 20000 in
theorem tb_cw89 : mm_cw (t_y 89) (t_b 89) (t_nl 89) (t_rt 89) (t_hh 89) ∈ tb_Ts := tb_in (i := 749) rfl rfl
set_option maxRecDepth 20000 in
theorem tb_cw90 : mm_cw (t_y 90) (t_b 90) (t_nl 90) (t_rt 90) (t_hh 90) ∈ tb_Ts := tb_in (i := 770) rfl rfl
set_option maxRecDepth 20000 in
theorem tb_cw91 : mm_cw (t_y 91) (t_b 91) (t_nl 91) (t_rt 91) (t_hh 91) ∈ tb_Ts := tb_in (i := 775) rfl rfl
set_option maxRecDepth 20000 in
theorem tb_cw92 : mm_cw (t_y 92) (t_b 92) (t_nl 92) (t_rt 92) (t_hh 92) ∈ tb_Ts := tb_in (i := 779) rfl rfl
set_option maxRecDepth 20000 in
theorem tb_cw93 : mm_cw (t_y 93) (t_b 93) (t_nl 93) (t_rt 93) (t_hh 93) ∈ tb_Ts := tb_in (i := 783) rfl rfl
set_option maxRecDepth 20000 in
theorem tb_cw94 : mm_cw (t_y 94) (t_b 94) (t_nl 94) (t_rt 94) (t_hh 94) ∈ tb_Ts := tb_in (i := 787) rfl rfl
set_option maxRecDepth 20000 in
theorem tb_cw95 : mm_cw (t_y 95) (t_b 95) (t_nl 95) (t_rt 95) (t_hh 95) ∈ tb_Ts := tb_in (i := 105) rfl rfl
set_option maxRecDepth 20000 in
theorem tb_cw96 : mm_cw (t_y 96) (t_b 96) (t_nl 96) (t_rt 96) (t_hh 96) ∈ tb_Ts := tb_in (i := 271) rfl rfl
set_option maxRecDepth 20000 in
theorem tb_cw97 : mm_cw (t_y 97) (t_b 97) (t_nl 97) (t_rt 97) (t_hh 97) ∈ tb_Ts := tb_in (i := 304) rfl rfl
set_option maxRecDepth 20000 in
theorem tb_cw98 : mm_cw (t_y 98) (t_b 98) (t_nl 98) (t_rt 98) (t_hh 98) ∈ tb_Ts := tb_in (i := 334) rfl rfl
set_option maxRecDepth 20000 in
theorem tb_cw99 : mm_cw (t_y 99) (t_b 99) (t_nl 99) (t_rt 99) (t_hh 99) ∈ tb_Ts := tb_in (i := 356) rfl rfl
set_option maxRecDepth 20000 in
theorem tb_cw100 : mm_cw (t_y 100) (t_b 100) (t_nl 100) (t_rt 100) (t_hh 100) ∈ tb_Ts := tb_in (i := 409) rfl rfl
set_option maxRecDepth 20000 in
theorem tb_cw101 : mm_cw (t_y 101) (t_b 101) (t_nl 101) (t_rt 101) (t_hh 101) ∈ tb_Ts := tb_in (i := 417) rfl rfl
set_option maxRecDepth 20000 in
theorem tb_cw102 : mm_cw (t_y 102) (t_b 102) (t_nl 102) (t_rt 102) (t_hh 102) ∈ tb_Ts := tb_in (i := 426) rfl rfl
set_option maxRecDepth 20000 in
theorem tb_cw103 : mm_cw (t_y 103) (t_b 103) (t_nl 103) (t_rt 103) (t_hh 103) ∈ tb_Ts := tb_in (i := 434) rfl rfl
set_option maxRecDepth 20000 in
theorem tb_cw104 : mm_cw (t_y 104) (t_b 104) (t_nl 104) (t_rt 104) (t_hh 104) ∈ tb_Ts := tb_in (i := 464) rfl rfl
set_option maxRecDepth 20000 in
theorem tb_cw105 : mm_cw (t_y 105) (t_b 105) (t_nl 105) (t_rt 105) (t_hh 105) ∈ tb_Ts := tb_in (i := 471) rfl rfl
set_option maxRecDepth 20000 in
theorem tb_cw106 : mm_cw (t_y 106) (t_b 106) (t_nl 106) (t_rt 106) (t_hh 106) ∈ tb_Ts := tb_in (i := 478) rfl rfl
set_option maxRecDepth 20000 in
theorem tb_cw107 : mm_cw (t_y 107) (t_b 107) (t_nl 107) (t_rt 107) (t_hh 107) ∈ tb_Ts := tb_in (i := 509) rfl rfl
set_option maxRecDepth 20000 in
theorem tb_cw108 : mm_cw (t_y 108) (t_b 108) (t_nl 108) (t_rt 108) (t_hh 108) ∈ tb_Ts := tb_in (i := 517) rfl rfl
set_option maxRecDepth 20000 in
theorem tb_cw109 : mm_cw (t_y 109) (t_b 109) (t_nl 109) (t_rt 109) (t_hh 109) ∈ tb_Ts := tb_in (i := 524) rfl rfl
theorem tb_cwl : ∀ e ∈ t_mthL, mm_cw (t_y e.2.2.1) (t_b e.2.2.1) (t_nl e.2.2.1) (t_rt e.2.2.1) (t_hh e.2.2.1) ∈ tb_Ts := List.forall_mem_cons.mpr ⟨tb_cw0, List.forall_mem_cons.mpr ⟨tb_cw50, List.forall_mem_cons.mpr ⟨tb_cw15, List.forall_mem_cons.mpr ⟨tb_cw36, List.forall_mem_cons.mpr ⟨tb_cw37, List.forall_mem_cons.mpr ⟨tb_cw38, List.forall_mem_cons.mpr ⟨tb_cw16, List.forall_mem_cons.mpr ⟨tb_cw95, List.forall_mem_cons.mpr ⟨tb_cw1, List.forall_mem_cons.mpr ⟨tb_cw19, List.forall_mem_cons.mpr ⟨tb_cw20, List.forall_mem_cons.mpr ⟨tb_cw18, List.forall_mem_cons.mpr ⟨tb_cw39, List.forall_mem_cons.mpr ⟨tb_cw96, List.forall_mem_cons.mpr ⟨tb_cw2, List.forall_mem_cons.mpr ⟨tb_cw21, List.forall_mem_cons.mpr ⟨tb_cw41, List.forall_mem_cons.mpr ⟨tb_cw97, List.forall_mem_cons.mpr ⟨tb_cw3, List.forall_mem_cons.mpr ⟨tb_cw46, List.forall_mem_cons.mpr ⟨tb_cw98, List.forall_mem_cons.mpr ⟨tb_cw4, List.forall_mem_cons.mpr ⟨tb_cw22, List.forall_mem_cons.mpr ⟨tb_cw48, List.forall_mem_cons.mpr ⟨tb_cw47, List.forall_mem_cons.mpr ⟨tb_cw99, List.forall_mem_cons.mpr ⟨tb_cw5, List.forall_mem_cons.mpr ⟨tb_cw49, List.forall_mem_cons.mpr ⟨tb_cw51, List.forall_mem_cons.mpr ⟨tb_cw28, List.forall_mem_cons.mpr ⟨tb_cw42, List.forall_mem_cons.mpr ⟨tb_cw29, List.forall_mem_cons.mpr ⟨tb_cw40, List.forall_mem_cons.mpr ⟨tb_cw23, List.forall_mem_cons.mpr ⟨tb_cw43, List.forall_mem_cons.mpr ⟨tb_cw42, List.forall_mem_cons.mpr ⟨tb_cw30, List.forall_mem_cons.mpr ⟨tb_cw100, List.forall_mem_cons.mpr ⟨tb_cw6, List.forall_mem_cons.mpr ⟨tb_cw101, List.forall_mem_cons.mpr ⟨tb_cw7, List.forall_mem_cons.mpr ⟨tb_cw102, List.forall_mem_cons.mpr ⟨tb_cw8, List.forall_mem_cons.mpr ⟨tb_cw103, List.forall_mem_cons.mpr ⟨tb_cw9, List.forall_mem_cons.mpr ⟨tb_cw24, List.forall_mem_cons.mpr ⟨tb_cw25, List.forall_mem_cons.mpr ⟨tb_cw44, List.forall_mem_cons.mpr ⟨tb_cw43, List.forall_mem_cons.mpr ⟨tb_cw26, List.forall_mem_cons.mpr ⟨tb_cw27, List.forall_mem_cons.mpr ⟨tb_cw104, List.forall_mem_cons.mpr ⟨tb_cw10, List.forall_mem_cons.mpr ⟨tb_cw105, List.forall_mem_cons.mpr ⟨tb_cw11, List.forall_mem_cons.mpr ⟨tb_cw106, List.forall_mem_cons.mpr ⟨tb_cw12, List.forall_mem_cons.mpr ⟨tb_cw31, List.forall_mem_cons.mpr ⟨tb_cw32, List.forall_mem_cons.mpr ⟨tb_cw45, List.forall_mem_cons.mpr ⟨tb_cw33, List.forall_mem_cons.mpr ⟨tb_cw34, List.forall_mem_cons.mpr ⟨tb_cw35, List.forall_mem_cons.mpr ⟨tb_cw107, List.forall_mem_cons.mpr ⟨tb_cw13, List.forall_mem_cons.mpr ⟨tb_cw108, List.forall_mem_cons.mpr ⟨tb_cw14, List.forall_mem_cons.mpr ⟨tb_cw109, List.forall_mem_cons.mpr ⟨tb_cw17, List.forall_mem_cons.mpr ⟨tb_cw52, List.forall_mem_cons.mpr ⟨tb_cw53, List.forall_mem_cons.mpr ⟨tb_cw54, List.forall_mem_cons.mpr ⟨tb_cw70, List.forall_mem_cons.mpr ⟨tb_cw58, List.forall_mem_cons.mpr ⟨tb_cw55, List.forall_mem_cons.mpr ⟨tb_cw71, List.forall_mem_cons.mpr ⟨tb_cw56, List.forall_mem_cons.mpr ⟨tb_cw63, List.forall_mem_cons.mpr ⟨tb_cw72, List.forall_mem_cons.mpr ⟨tb_cw73, List.forall_mem_cons.mpr ⟨tb_cw57, List.forall_mem_cons.mpr ⟨tb_cw61, List.forall_mem_cons.mpr ⟨tb_cw75, List.forall_mem_cons.mpr ⟨tb_cw74, List.forall_mem_cons.mpr ⟨tb_cw59, List.forall_mem_cons.mpr ⟨tb_cw60, List.forall_mem_cons.mpr ⟨tb_cw69, List.forall_mem_cons.mpr ⟨tb_cw62, List.forall_mem_cons.mpr ⟨tb_cw65, List.forall_mem_cons.mpr ⟨tb_cw64, List.forall_mem_cons.mpr ⟨tb_cw68, List.forall_mem_cons.mpr ⟨tb_cw76, List.forall_mem_cons.mpr ⟨tb_cw77, List.forall_mem_cons.mpr ⟨tb_cw78, List.forall_mem_cons.mpr ⟨tb_cw81, List.forall_mem_cons.mpr ⟨tb_cw79, List.forall_mem_cons.mpr ⟨tb_cw80, List.forall_mem_cons.mpr ⟨tb_cw66, List.forall_mem_cons.mpr ⟨tb_cw82, List.forall_mem_cons.mpr ⟨tb_cw67, List.forall_mem_cons.mpr ⟨tb_cw83, List.forall_mem_cons.mpr ⟨tb_cw84, List.forall_mem_cons.mpr ⟨tb_cw89, List.forall_mem_cons.mpr ⟨tb_cw85, List.forall_mem_cons.mpr ⟨tb_cw88, List.forall_mem_cons.mpr ⟨tb_cw87, List.forall_mem_cons.mpr ⟨tb_cw86, List.forall_mem_cons.mpr ⟨tb_cw90, List.forall_mem_cons.mpr ⟨tb_cw91, List.forall_mem_cons.mpr ⟨tb_cw92, List.forall_mem_cons.mpr ⟨tb_cw93, List.forall_mem_cons.mpr ⟨tb_cw94, fun _ h => absurd h List.not_mem_nil⟩⟩⟩⟩⟩⟩⟩⟩⟩⟩⟩⟩⟩⟩⟩⟩⟩⟩⟩⟩⟩⟩⟩⟩⟩⟩⟩⟩⟩⟩⟩⟩⟩⟩⟩⟩⟩⟩⟩⟩⟩⟩⟩⟩⟩⟩⟩⟩⟩⟩⟩⟩⟩⟩⟩⟩⟩⟩⟩⟩⟩⟩⟩⟩⟩⟩⟩⟩⟩⟩⟩⟩⟩⟩⟩⟩⟩⟩⟩⟩⟩⟩⟩⟩⟩⟩⟩⟩⟩⟩⟩⟩⟩⟩⟩⟩⟩⟩⟩⟩⟩⟩⟩⟩⟩⟩⟩⟩⟩⟩⟩⟩
theorem mm_ml_mem : ∀ (L : List (Nat × Nat × Nat × Nat × Nat × Nat)) (o i k n t : Nat), mm_ml L o i = some (k, n, t) → ∃ p, (o, i, k, n, t, p) ∈ L
  | [], o, i, k, n, t, h => by cases h
  | (o1, i1, k1, n1, t1, p1) :: r, o, i, k, n, t, h => by
    unfold mm_ml at h
    cases hb : (Nat.beq o1 o && Nat.beq i1 i) with
    | true =>
      rw [hb] at h
      rw [Bool.and_eq_true] at hb
      have e1 := Nat.eq_of_beq_eq_true hb.1
      have e2 := Nat.eq_of_beq_eq_true hb.2
      subst e1; subst e2
      cases h
      exact ⟨p1, List.mem_cons_self⟩
    | false =>
      rw [hb] at h
      obtain ⟨p, hp⟩ := mm_ml_mem r o i k n t h
      exact ⟨p, List.mem_cons_of_mem _ hp⟩
def mm_mth3 (o idx k np : Nat) : Prop := Cond.methodLink (t_on o) idx (t_y k) ∈ tb_Ts ∧ mm_cw (t_y k) (t_b k) (t_nl k) (t_rt k) (t_hh k) ∈ tb_Ts ∧ (parseMethodDescriptor (t_y k).desc).map (fun d => d.parameters.length) = some np ∧ ((t_y k).cls ≠ "java/lang/invoke/MethodHandle" ∧ (t_y k).cls ≠ "java/lang/invoke/VarHandle") ∧ plainFor (t_y k) = true ∧ t_nl k ≤ 13
theorem tb_mth0 {o idx k np : Nat} (h : t_mth o idx = some (k, np, 0)) : mm_mth3 o idx k np ∧ Cond.static (t_y k) ∈ tb_Ts ∧ Cond.initialized (t_y k).cls ∈ tb_Ts := by
  obtain ⟨p, hp⟩ := mm_ml_mem _ _ _ _ _ _ h
  have h1 := tb_mck _ hp
  have h2 := tb_cwl _ hp
  unfold mm_mck at h1
  simp only [Bool.and_eq_true, decide_eq_true_eq] at h1
  obtain ⟨a1, a2, a3, a4, a5, a6, a7⟩ := h1
  exact ⟨⟨tb_in a1 rfl, h2, a2, a3, a4, Nat.le_of_ble_eq_true a5⟩, tb_in a6 rfl, tb_in a7 rfl⟩
theorem tb_mth1 {o idx k np : Nat} (h : t_mth o idx = some (k, np, 1)) : mm_mth3 o idx k np ∧ Cond.instanceMethod (t_y k) ∈ tb_Ts ∧ Cond.selects (t_y k).cls (t_y k) (t_y k) ∈ tb_Ts ∧ ∃ C T N, t_cl[t_rc k]? = some (C, T, N) ∧ C = (t_y k).cls := by
  obtain ⟨p, hp⟩ := mm_ml_mem _ _ _ _ _ _ h
  have h1 := tb_mck _ hp
  have h2 := tb_cwl _ hp
  unfold mm_mck at h1
  simp only [Bool.and_eq_true, decide_eq_true_eq] at h1
  obtain ⟨a1, a2, a3, a4, a5, a6, a7, a8⟩ := h1
  refine ⟨⟨tb_in a1 rfl, h2, a2, a3, a4, Nat.le_of_ble_eq_true a5⟩, tb_in a6 rfl, tb_inL a7 rfl, ?_⟩
  cases hc : t_cl[t_rc k]? with
  | none => rw [hc] at a8; cases a8
  | some q =>
    rw [hc] at a8
    exact ⟨q.1, q.2.1, q.2.2, rfl, Option.some.inj a8⟩
theorem tb_mth2 {o idx k np : Nat} (h : t_mth o idx = some (k, np, 2)) : mm_mth3 o idx k np ∧ Cond.instanceMethod (t_y k) ∈ tb_Ts ∧ (t_y k).name = "<init>" ∧ t_hh k = [] ∧ t_rt k = none := by
  obtain ⟨p, hp⟩ := mm_ml_mem _ _ _ _ _ _ h
  have h1 := tb_mck _ hp
  have h2 := tb_cwl _ hp
  unfold mm_mck at h1
  simp only [Bool.and_eq_true, decide_eq_true_eq] at h1
  obtain ⟨a1, a2, a3, a4, a5, a6, a7, a8, a9⟩ := h1
  exact ⟨⟨tb_in a1 rfl, h2, a2, a3, a4, Nat.le_of_ble_eq_true a5⟩, tb_in a6 rfl, a7, List.isEmpty_iff.mp a8, Option.isNone_iff_eq_none.mp a9⟩
