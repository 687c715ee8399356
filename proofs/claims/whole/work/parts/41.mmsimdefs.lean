/-- what a walk of the method k, entered with the budget z at depth d, rests on -/
def mm_Cx (p : Program) (D : va_G) (aC : Nat → ClassId) (H0 : Heap) (R : Room) (s : State) (m : MethodId) (meth : Method) (c : Code) (d k : Nat) (z : Nat × Nat) : Prop :=
  p.tables.exec = Jvm.exec ∧ mm_Wd s ∧ mm_Kn D aC t_cl s ∧ mm_Mt (t_y k) (t_b k) (t_nl k) (t_rt k) (t_hh k) s m meth c ∧ d ≤ R.frames ∧ 36 * d ≤ R.locals ∧ z.1 ≤ R.cells ∧ z.2 ≤ R.slots ∧ mm_Zs s H0
/-- where a walk stands: the mini machine's heap lies in the machine's, what has been made is what the budget lost -/
def mm_Ok (D : va_G) (aC : Nat → ClassId) (H0 : Heap) (z : Nat × Nat) (h : mm_H) (H : Heap) (locs : List Loc) (cells slots : Nat) : Prop :=
  mm_emb D aC t_cl H0 h H ∧ (∀ q ∈ locs, H0.size ≤ q.base) ∧ h.2.1.1 ≤ z.1 ∧ h.2.1.2 ≤ z.2 ∧ cells = z.1 - h.2.1.1 ∧ slots = z.2 - h.2.1.2
