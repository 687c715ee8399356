/-! THE MINI MACHINE's heap: a partial function from addresses to cells (object: number of its class, fields; array: number of its kind, length, contents), and how it lies in the machine's heap. -/
abbrev mm_C : Type := (Nat × List Value) ⊕ (Nat × Nat × (Nat → Value))
/-- its size; how many cells and slots may still be made; the cells -/
abbrev mm_H : Type := Nat × (Nat × Nat) × (Nat → Option mm_C)
def mm_ty : Nat → FieldType
  | 0 => .int
  | 1 => .long
  | 2 => .boolean
  | 3 => .object "TrusteeDesk$Claim"
  | 4 => .object "TrusteeDesk$Asset"
  | _ => .int
def mm_scr (c : mm_C) : Bool := match c with
  | .inl _ => false
  | .inr q => Nat.beq q.1 5
def mm_upd (h : mm_H) (a : Nat) (c : mm_C) : mm_H := (h.1, h.2.1, fun q => cond (Nat.beq q a) (some c) (h.2.2 q))
def mm_push (h : mm_H) (n : Nat) (c : mm_C) : mm_H := (h.1 + 1, (h.2.1.1 - 1, h.2.1.2 - n), fun q => cond (Nat.beq q h.1) (some c) (h.2.2 q))
def mm_at (D : va_G) (aC : Nat → ClassId) (cl : List vw_C) (a : Nat) (c : mm_C) (H : Heap) : Prop := match c with
  | .inl o => ∃ r : vw_C, cl[o.1]? = some r ∧ t_OB a (D.1 o.1) r.2.2 (D.2 o.1) H (vp_V o.2)
  | .inr q => ∃ cell : Cell, H[a]? = some cell ∧ cell.cls = aC q.1 ∧ cell.vm ≠ .unknown ∧ (∀ k, cell.vm ≠ .statics k) ∧ cell.slots.size = q.2.1 ∧ ∀ j : Nat, j < q.2.1 → cell.slots[j]? = some (q.2.2 j)
def mm_emb (D : va_G) (aC : Nat → ClassId) (cl : List vw_C) (H0 : Heap) (h : mm_H) (H : Heap) : Prop :=
  H.size = h.1 ∧ (∀ (a : Nat) (c : mm_C), h.2.2 a = some c → mm_at D aC cl a c H ∧ (mm_scr c = false → H0.size ≤ a)) ∧ (∀ q : Nat, H0.size ≤ q → ∀ cell : Cell, H[q]? = some cell → cell.vm.isStatics = false) ∧ H0.size ≤ h.1 ∧ ∀ q : Nat, q < H0.size → H[q]? = H0[q]?
/-- what the tables say of the classes and of the array classes -/
def mm_Kn (D : va_G) (aC : Nat → ClassId) (cl : List vw_C) (U : State) : Prop :=
  (∀ (c : Nat) (q : vw_C), cl[c]? = some q → u_Kn U q.1 q.2.1 q.2.2 (D.1 c) (D.2 c)) ∧ (∀ t : Nat, t < 6 → ∃ (k : Class) (comp : ClassId), U.vm.classes[aC t]? = some k ∧ k.kind = .array comp (mm_ty t)) ∧ ∀ t : Nat, t < 5 → va_RA U (aC t) (mm_ty t)
theorem mm_Kn.moved {D : va_G} {aC : Nat → ClassId} {cl : List vw_C} {u U : State} (hvm : u.vm.Alike U.vm) (h : mm_Kn D aC cl u) : mm_Kn D aC cl U := by
  refine ⟨fun c q hq => u_Kn_moved hvm (h.1 c q hq), fun t ht => ?_, fun t ht => (h.2.2 t ht).moved hvm⟩
  obtain ⟨k, comp, h1, h2⟩ := h.2.1 t ht
  obtain ⟨k', hk', he⟩ := hvm.2.2 _ _ h1
  exact ⟨k', comp, hk', by rw [he]; exact h2⟩
theorem mm_beq_ne {a b : Nat} (h : a ≠ b) : Nat.beq a b = false := by
  cases hb : Nat.beq a b with
  | false => rfl
  | true => exact absurd (Nat.eq_of_beq_eq_true hb) h
theorem mm_beq_self (a : Nat) : Nat.beq a a = true := Nat.beq_refl a
theorem mm_upd_self (h : mm_H) (a : Nat) (c : mm_C) : (mm_upd h a c).2.2 a = some c := by
  show cond (Nat.beq a a) (some c) (h.2.2 a) = some c
  rw [mm_beq_self]; rfl
theorem mm_upd_ne (h : mm_H) {a q : Nat} (c : mm_C) (hq : q ≠ a) : (mm_upd h a c).2.2 q = h.2.2 q := by
  show cond (Nat.beq q a) (some c) (h.2.2 q) = h.2.2 q
  rw [mm_beq_ne hq]; rfl
theorem mm_push_self (h : mm_H) (n : Nat) (c : mm_C) : (mm_push h n c).2.2 h.1 = some c := by
  show cond (Nat.beq h.1 h.1) (some c) (h.2.2 h.1) = some c
  rw [mm_beq_self]; rfl
theorem mm_push_ne (h : mm_H) (n : Nat) {q : Nat} (c : mm_C) (hq : q ≠ h.1) : (mm_push h n c).2.2 q = h.2.2 q := by
  show cond (Nat.beq q h.1) (some c) (h.2.2 q) = h.2.2 q
  rw [mm_beq_ne hq]; rfl
section MMH
variable {D : va_G} {aC : Nat → ClassId} {cl : List vw_C} {H0 : Heap} {h : mm_H} {H H1 : Heap} {a : Nat} {c0 : mm_C}
theorem mm_at.kept (ha : mm_at D aC cl a c0 H) (hq : H1[a]? = H[a]?) : mm_at D aC cl a c0 H1 := by
  cases c0 with
  | inl o =>
    obtain ⟨r, h1, h2⟩ := ha
    exact ⟨r, h1, h2.kept hq⟩
  | inr q =>
    obtain ⟨cell, h1, h2⟩ := ha
    exact ⟨cell, by rw [hq]; exact h1, h2⟩
theorem mm_at.lt (ha : mm_at D aC cl a c0 H) : a < H.size := by
  cases c0 with
  | inl o =>
    obtain ⟨r, h1, cell, h2, -⟩ := ha
    exact (Array.getElem?_eq_some_iff.mp h2).1
  | inr q =>
    obtain ⟨cell, h1, h2⟩ := ha
    exact (Array.getElem?_eq_some_iff.mp h1).1
theorem mm_emb.lt (hE : mm_emb D aC cl H0 h H) (ha : h.2.2 a = some c0) : a < h.1 := by
  rw [← hE.1]
  exact (hE.2.1 a c0 ha).1.lt
theorem mm_emb.upd (hE : mm_emb D aC cl H0 h H) (hs : H1.size = H.size) (ho : ∀ q : Nat, q ≠ a → H1[q]? = H[q]?) (hat : mm_at D aC cl a c0 H1) (hB : H0.size ≤ a)
    (hst : ∀ cell : Cell, H1[a]? = some cell → cell.vm.isStatics = false) : mm_emb D aC cl H0 (mm_upd h a c0) H1 := by
  refine ⟨by rw [hs]; exact hE.1, fun q c hq => ?_, fun q hq cell hc => ?_, hE.2.2.2.1, fun q hq => ?_⟩
  · by_cases e : q = a
    · subst e
      rw [mm_upd_self] at hq
      cases hq
      exact ⟨hat, fun _ => hB⟩
    · rw [mm_upd_ne _ _ e] at hq
      obtain ⟨g1, g2⟩ := hE.2.1 q c hq
      exact ⟨g1.kept (ho q e), g2⟩
  · by_cases e : q = a
    · subst e
      exact hst cell hc
    · rw [ho q e] at hc
      exact hE.2.2.1 q hq cell hc
  · rw [ho q (by omega)]
    exact hE.2.2.2.2 q hq
theorem mm_emb.push {n : Nat} (hE : mm_emb D aC cl H0 h H) (hs : H1.size = h.1 + 1) (ho : ∀ q : Nat, q < h.1 → H1[q]? = H[q]?) (hat : mm_at D aC cl h.1 c0 H1)
    (hst : ∀ cell : Cell, H1[h.1]? = some cell → cell.vm.isStatics = false) : mm_emb D aC cl H0 (mm_push h n c0) H1 := by
  have hB := hE.2.2.2.1
  refine ⟨hs, fun q c hq => ?_, fun q hq cell hc => ?_, Nat.le_succ_of_le hB, fun q hq => by rw [ho q (by omega)]; exact hE.2.2.2.2 q hq⟩
  · by_cases e : q = h.1
    · subst e
      rw [mm_push_self] at hq
      cases hq
      exact ⟨hat, fun _ => hB⟩
    · rw [mm_push_ne _ _ _ e] at hq
      obtain ⟨g1, g2⟩ := hE.2.1 q c hq
      exact ⟨g1.kept (ho q (hE.lt hq)), g2⟩
  · have hlt : q < h.1 + 1 := by rw [← hs]; exact (Array.getElem?_eq_some_iff.mp hc).1
    by_cases e : q = h.1
    · subst e
      exact hst cell hc
    · rw [ho q (by omega)] at hc
      exact hE.2.2.1 q hq cell hc
end MMH
/-- an index in range -/
def mm_idx (j : Int32) (n : Nat) : Option Nat := if j < 0 ∨ n ≤ j.toNatClampNeg then none else some j.toNatClampNeg
theorem mm_idx_ok {j : Int32} {n q : Nat} (h : mm_idx j n = some q) : ¬ (j < 0 ∨ n ≤ j.toNatClampNeg) ∧ j.toNatClampNeg = q := by
  unfold mm_idx at h
  split at h
  · cases h
  · rename_i hc; cases h; exact ⟨hc, rfl⟩
theorem mm_idx_nI {i n : Nat} (h : i < n) (hn : n < 2 ^ 31) : mm_idx (nI i) n = some i := by
  unfold mm_idx
  rw [if_neg (nI_in h hn), nI_clamp (by omega)]
def mm_fit (ty : FieldType) (v : Value) : Bool := match ty, v with
  | .int, .int _ => true
  | .long, .long _ => true
  | .boolean, .int x => x == 0 || x == 1
  | .object _, .ref _ => true
  | .array _, .ref _ => true
  | _, _ => false
theorem mm_bool1 {x : Int32} (h : (x == 0 || x == 1) = true) : x &&& 1 = x := by
  simp only [Bool.or_eq_true, beq_iff_eq] at h
  rcases h with rfl | rfl <;> decide
theorem mm_fit_ok {ty : FieldType} {v : Value} (h : mm_fit ty v = true) : narrow ty v = v ∧ fits ty v = true := by
  unfold mm_fit at h
  split at h
  · exact ⟨rfl, rfl⟩
  · exact ⟨rfl, rfl⟩
  · refine ⟨?_, h⟩
    show Value.int (_ &&& 1) = _
    rw [mm_bool1 h]
  · exact ⟨rfl, rfl⟩
  · exact ⟨rfl, rfl⟩
  · cases h
