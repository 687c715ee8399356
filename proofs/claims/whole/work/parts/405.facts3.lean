set_option maxRecDepth 20000 in
theorem tb_oa5 : ∀ w ∈ Bundle.ownAtoms "TrusteeDesk" 140 "java/lang/IllegalArgumentException" ["java/lang/RuntimeException", "java/lang/Exception"], w ∈ tb_Ts ∨ w = .isRef (.static "java/lang/Throwable" "UNASSIGNED_STACK" "[Ljava/lang/StackTraceElement;") ∨ w = .isRef (.static "java/lang/Throwable" "SUPPRESSED_SENTINEL" "Ljava/util/List;") ∨ w = .laysStatic "java/lang/Throwable" "UNASSIGNED_STACK" "[Ljava/lang/StackTraceElement;" ∨ w = .laysStatic "java/lang/Throwable" "SUPPRESSED_SENTINEL" "Ljava/util/List;" := by decide +kernel
theorem tb_ft5 : Bundle.fit "java/lang/IllegalArgumentException" = true := by decide +kernel
set_option maxRecDepth 20000 in
theorem tb_oa8 : ∀ w ∈ Bundle.ownAtoms "TrusteeDesk" 48 "java/lang/UnsupportedOperationException" ["java/lang/RuntimeException", "java/lang/Exception"], w ∈ tb_Ts ∨ w = .isRef (.static "java/lang/Throwable" "UNASSIGNED_STACK" "[Ljava/lang/StackTraceElement;") ∨ w = .isRef (.static "java/lang/Throwable" "SUPPRESSED_SENTINEL" "Ljava/util/List;") ∨ w = .laysStatic "java/lang/Throwable" "UNASSIGNED_STACK" "[Ljava/lang/StackTraceElement;" ∨ w = .laysStatic "java/lang/Throwable" "SUPPRESSED_SENTINEL" "Ljava/util/List;" := by decide +kernel
theorem tb_ft8 : Bundle.fit "java/lang/UnsupportedOperationException" = true := by decide +kernel
set_option maxRecDepth 20000 in
theorem tb_oa6 : ∀ w ∈ Bundle.ownAtoms "TrusteeDesk" 72 "java/lang/IllegalStateException" ["java/lang/RuntimeException", "java/lang/Exception"], w ∈ tb_Ts ∨ w = .isRef (.static "java/lang/Throwable" "UNASSIGNED_STACK" "[Ljava/lang/StackTraceElement;") ∨ w = .isRef (.static "java/lang/Throwable" "SUPPRESSED_SENTINEL" "Ljava/util/List;") ∨ w = .laysStatic "java/lang/Throwable" "UNASSIGNED_STACK" "[Ljava/lang/StackTraceElement;" ∨ w = .laysStatic "java/lang/Throwable" "SUPPRESSED_SENTINEL" "Ljava/util/List;" := by decide +kernel
theorem tb_ft6 : Bundle.fit "java/lang/IllegalStateException" = true := by decide +kernel
set_option maxRecDepth 20000 in
theorem tb_oa7 : ∀ w ∈ Bundle.ownAtoms "TrusteeDesk" 227 "java/lang/IndexOutOfBoundsException" ["java/lang/RuntimeException", "java/lang/Exception"], w ∈ tb_Ts ∨ w = .isRef (.static "java/lang/Throwable" "UNASSIGNED_STACK" "[Ljava/lang/StackTraceElement;") ∨ w = .isRef (.static "java/lang/Throwable" "SUPPRESSED_SENTINEL" "Ljava/util/List;") ∨ w = .laysStatic "java/lang/Throwable" "UNASSIGNED_STACK" "[Ljava/lang/StackTraceElement;" ∨ w = .laysStatic "java/lang/Throwable" "SUPPRESSED_SENTINEL" "Ljava/util/List;" := by decide +kernel
theorem tb_ft7 : Bundle.fit "java/lang/IndexOutOfBoundsException" = true := by decide +kernel
theorem tb_ftn : ∀ n ∈ (["java/lang/RuntimeException", "java/lang/Exception"] : List String), Bundle.fit n = true := by decide +kernel
theorem tb_thr {o idx x ic : Nat} (h : t_exc o idx = some x) (hc : t_ctr o ic x = true) : ∃ (Cn : String) (Tn : u_T) (names : List String), t_cl[x]? = some (Cn, Tn, 0) ∧ Bundle.fit Cn = true ∧ (∀ n ∈ names, Bundle.fit n = true) ∧ names.length ≤ 2 ∧
    (∀ w ∈ Bundle.ownAtoms (t_on o) ic Cn names, w ∈ tb_Ts ∨ w = .isRef (.static "java/lang/Throwable" "UNASSIGNED_STACK" "[Ljava/lang/StackTraceElement;") ∨ w = .isRef (.static "java/lang/Throwable" "SUPPRESSED_SENTINEL" "Ljava/util/List;") ∨ w = .laysStatic "java/lang/Throwable" "UNASSIGNED_STACK" "[Ljava/lang/StackTraceElement;" ∨ w = .laysStatic "java/lang/Throwable" "SUPPRESSED_SENTINEL" "Ljava/util/List;") ∧ Cond.classLink (t_on o) idx Cn ∈ tb_Ts ∧ Cond.initialized Cn ∈ tb_Ts := by
  unfold t_exc at h
  split at h
  · cases h
    unfold t_ctr at hc
    split at hc
    · exact ⟨"java/lang/IllegalArgumentException", F_x, ["java/lang/RuntimeException", "java/lang/Exception"], rfl, tb_ft5, tb_ftn, by decide, tb_oa5, tb_in (i := 116) (by decide +kernel) rfl, tb_in (i := 7) (by decide +kernel) rfl⟩
    · rename_i hz; exact absurd hz (by decide)
    · rename_i hz; exact absurd hz (by decide)
    · rename_i hz; exact absurd hz (by decide)
    · cases hc
  · cases h
    unfold t_ctr at hc
    split at hc
    · rename_i hz; exact absurd hz (by decide)
    · exact ⟨"java/lang/UnsupportedOperationException", F_x, ["java/lang/RuntimeException", "java/lang/Exception"], rfl, tb_ft8, tb_ftn, by decide, tb_oa8, tb_in (i := 190) (by decide +kernel) rfl, tb_in (i := 8) (by decide +kernel) rfl⟩
    · rename_i hz; exact absurd hz (by decide)
    · rename_i hz; exact absurd hz (by decide)
    · cases hc
  · cases h
    unfold t_ctr at hc
    split at hc
    · rename_i hz; exact absurd hz (by decide)
    · rename_i hz; exact absurd hz (by decide)
    · exact ⟨"java/lang/IllegalStateException", F_x, ["java/lang/RuntimeException", "java/lang/Exception"], rfl, tb_ft6, tb_ftn, by decide, tb_oa6, tb_in (i := 210) (by decide +kernel) rfl, tb_in (i := 9) (by decide +kernel) rfl⟩
    · rename_i hz; exact absurd hz (by decide)
    · cases hc
  · cases h
    unfold t_ctr at hc
    split at hc
    · rename_i hz; exact absurd hz (by decide)
    · rename_i hz; exact absurd hz (by decide)
    · rename_i hz; exact absurd hz (by decide)
    · exact ⟨"java/lang/IndexOutOfBoundsException", F_x, ["java/lang/RuntimeException", "java/lang/Exception"], rfl, tb_ft7, tb_ftn, by decide, tb_oa7, tb_in (i := 281) (by decide +kernel) rfl, tb_in (i := 11) (by decide +kernel) rfl⟩
    · cases hc
  · cases h
theorem mm_str {own tx : String} {si : Nat} {s : State} (h : (Cond.stringRef own si tx).before #[] s = true) : ∃ sa, vk_R own si tx sa s := by
  cases hc : s.vm.findClass own with
  | none => simp [Cond.before, Cond.holds, Cond.value, hc] at h
  | some cur =>
    obtain ⟨k, cf, i, a, -, -, -, -, -, he⟩ := Cond.stringRef_spec (first := s) (o := none) (idx := []) hc h
    exact ⟨a, h, he⟩
theorem tb_strs {o si : Nat} (h : t_str o si = true) {s : State} (hwd : mm_Wd s) : ∃ tx sa, vk_R (t_on o) si tx sa s := by
  unfold t_str at h
  split at h
  · exact ⟨"there is no such rank", mm_str (hwd.1 _ (tb_in (i := 158) (by decide +kernel) rfl) #[])⟩
  · exact ⟨"no such cents", mm_str (hwd.1 _ (tb_in (i := 189) (by decide +kernel) rfl) #[])⟩
  · exact ⟨"there are 60 claims", mm_str (hwd.1 _ (tb_in (i := 199) (by decide +kernel) rfl) #[])⟩
  · exact ⟨"all is at its end", mm_str (hwd.1 _ (tb_in (i := 219) (by decide +kernel) rfl) #[])⟩
  · exact ⟨"there is no such claim", mm_str (hwd.1 _ (tb_in (i := 290) (by decide +kernel) rfl) #[])⟩
  · exact ⟨"the claim is out, or not fresh", mm_str (hwd.1 _ (tb_in (i := 301) (by decide +kernel) rfl) #[])⟩
  · exact ⟨"there are 20 assets", mm_str (hwd.1 _ (tb_in (i := 309) (by decide +kernel) rfl) #[])⟩
  · exact ⟨"there is no such asset", mm_str (hwd.1 _ (tb_in (i := 343) (by decide +kernel) rfl) #[])⟩
  · exact ⟨"the asset has 4 securities", mm_str (hwd.1 _ (tb_in (i := 344) (by decide +kernel) rfl) #[])⟩
  · exact ⟨"the asset or the claim does not allow a security", mm_str (hwd.1 _ (tb_in (i := 349) (by decide +kernel) rfl) #[])⟩
  · exact ⟨"the asset is realised, or a claim in it is contested", mm_str (hwd.1 _ (tb_in (i := 365) (by decide +kernel) rfl) #[])⟩
  · exact ⟨"the claim is not admitted, or not fresh", mm_str (hwd.1 _ (tb_in (i := 414) (by decide +kernel) rfl) #[])⟩
  · exact ⟨"the cents are below 0, or above the amount", mm_str (hwd.1 _ (tb_in (i := 422) (by decide +kernel) rfl) #[])⟩
  · exact ⟨"the claim is not contested", mm_str (hwd.1 _ (tb_in (i := 423) (by decide +kernel) rfl) #[])⟩
  · exact ⟨"the cash has less", mm_str (hwd.1 _ (tb_in (i := 431) (by decide +kernel) rfl) #[])⟩
  · exact ⟨"the percentage is not 1 .. 10000", mm_str (hwd.1 _ (tb_in (i := 439) (by decide +kernel) rfl) #[])⟩
  · exact ⟨"not above the rank's, or a rank before it is not whole", mm_str (hwd.1 _ (tb_in (i := 444) (by decide +kernel) rfl) #[])⟩
  · exact ⟨"an asset is not realised", mm_str (hwd.1 _ (tb_in (i := 483) (by decide +kernel) rfl) #[])⟩
  · exact ⟨"nothing else is told of a claim", mm_str (hwd.1 _ (tb_in (i := 514) (by decide +kernel) rfl) #[])⟩
  · exact ⟨"no such entry is kept", mm_str (hwd.1 _ (tb_in (i := 533) (by decide +kernel) rfl) #[])⟩
  · exact ⟨"nothing else is told of an entry", mm_str (hwd.1 _ (tb_in (i := 534) (by decide +kernel) rfl) #[])⟩
  · cases h
def mm_hrel (o : Nat) : List (Nat × Nat × Nat × Nat) → List (Nat × Nat × Nat × Nat) → Prop
  | [], [] => True
  | (a, b, t, i) :: r, (a', b', t', x) :: r' => a = a' ∧ b = b' ∧ t = t' ∧ i ≠ 0 ∧ (∃ q : vw_C, t_cl[x]? = some q ∧ Cond.classLink (t_on o) i q.1 ∈ tb_Ts) ∧ mm_hrel o r r'
  | _, _ => False
theorem mm_hrel_map : ∀ hh : List (Nat × Nat × Nat × Nat), (∀ q ∈ hh, q.2.2.2 = 13 ∨ q.2.2.2 = 15 ∨ q.2.2.2 = 17 ∨ q.2.2.2 = 23) → mm_hrel 5 hh (hh.map (fun q => (q.1, q.2.1, q.2.2.1, t_hc q.2.2.2)))
  | [], _ => trivial
  | (a, b, t, i) :: r, h => by
    have hr := mm_hrel_map r (fun q hq => h q (List.mem_cons_of_mem _ hq))
    rcases h _ List.mem_cons_self with e | e | e | e
    · cases e; exact ⟨rfl, rfl, rfl, by decide, ⟨_, rfl, tb_in (i := 106) (by decide +kernel) rfl⟩, hr⟩
    · cases e; exact ⟨rfl, rfl, rfl, by decide, ⟨_, rfl, tb_in (i := 107) (by decide +kernel) rfl⟩, hr⟩
    · cases e; exact ⟨rfl, rfl, rfl, by decide, ⟨_, rfl, tb_in (i := 108) (by decide +kernel) rfl⟩, hr⟩
    · cases e; exact ⟨rfl, rfl, rfl, by decide, ⟨_, rfl, tb_in (i := 272) (by decide +kernel) rfl⟩, hr⟩
theorem tb_h1 : ∀ k, k < 111 → (t_hh k = [] ∨ t_o k = 5) ∧ ∀ q ∈ t_hh k, q.2.2.2 = 13 ∨ q.2.2.2 = 15 ∨ q.2.2.2 = 17 ∨ q.2.2.2 = 23 := by decide +kernel
theorem tb_hx (k : Nat) : mm_hrel (t_o k) (t_hh k) (t_hx k) := by
  by_cases hk : k < 111
  · obtain ⟨h1, h2⟩ := tb_h1 k hk
    unfold t_hx
    rcases h1 with h1 | h1
    · rw [h1]; exact trivial
    · rw [h1]; exact mm_hrel_map _ h2
  · have h0 : t_hh k = [] := by
      unfold t_hh
      rw [List.getD_eq_getElem?_getD, List.getElem?_eq_none (by show 111 ≤ k; omega)]
      rfl
    unfold t_hx
    rw [h0]
    exact trivial
theorem t_hc5 (i : Nat) : 5 ≤ t_hc i := by
  unfold t_hc
  split <;> omega
theorem tb_hxs (k : Nat) : ∀ q ∈ t_hx k, 5 ≤ q.2.2.2 := by
  intro q hq
  obtain ⟨q0, -, rfl⟩ := List.mem_map.mp hq
  exact t_hc5 _
theorem mm_find5 : ∀ (L : List (Nat × Nat × Nat × Nat)) (pc x pc' : Nat), (∀ q ∈ L, 5 ≤ q.2.2.2) → mm_find L pc x = some pc' → 5 ≤ x
  | [], pc, x, pc', _, h => by cases h
  | (a, b, t, y) :: r, pc, x, pc', h5, h => by
    unfold mm_find at h
    cases hb : (Nat.ble a pc && (Nat.ble (pc + 1) b && Nat.beq y x)) with
    | true =>
      simp only [Bool.and_eq_true] at hb
      have e := Nat.eq_of_beq_eq_true hb.2.2
      subst e
      exact h5 _ List.mem_cons_self
    | false =>
      rw [hb] at h
      exact mm_find5 r pc x pc' (fun q hq => h5 q (List.mem_cons_of_mem _ hq)) h
theorem tb_hx5 {k pc x pc' : Nat} (h : mm_find (t_hx k) pc x = some pc') : 5 ≤ x := mm_find5 _ _ _ _ (tb_hxs k) h
theorem tb_apart {D : va_G} {aC : Nat → ClassId} {s : State} (hK : mm_Kn D aC t_cl s) (hwd : mm_Wd s) : ∀ x y : Nat, 5 ≤ x → x ≠ y → x < t_cl.length → y < t_cl.length → 5 ≤ y → s.vm.assignable (D.1 x) (D.1 y) = false := by
  intro x y hx hxy hxl hyl hy
  have hxl : x < 9 := hxl
  have hyl : y < 9 := hyl
  have key : ∀ (a b : Nat) (A B : String) (TA TB : u_T), t_cl[a]? = some (A, TA, 0) → t_cl[b]? = some (B, TB, 0) → (A, B) ∈ tb_nc → s.vm.assignable (D.1 a) (D.1 b) = false := by
    intro a b A B TA TB ha hb hm
    obtain ⟨c, t, h1, h2, h3⟩ := hwd.2 _ hm
    have e1 := Option.some.inj ((hK.1 a _ ha).2.1.symm.trans h1)
    have e2 := Option.some.inj ((hK.1 b _ hb).2.1.symm.trans h2)
    rw [e1, e2]
    exact h3
  rcases (show x = 5 ∨ x = 6 ∨ x = 7 ∨ x = 8 by omega) with rfl | rfl | rfl | rfl <;> rcases (show y = 5 ∨ y = 6 ∨ y = 7 ∨ y = 8 by omega) with rfl | rfl | rfl | rfl <;>
    first | exact absurd rfl hxy | exact key _ _ _ _ _ _ rfl rfl (by decide +kernel)
