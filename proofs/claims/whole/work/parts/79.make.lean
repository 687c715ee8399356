/-! a security more, a claim more, an asset more -/
section MAKE
variable {u v d : Nat} {X : xX} {P M : pP} {z : zZ} {h : mm_H} {i j c a : Nat}
def p_sec (P : pP) (j c : Nat) (l : Int64) : pP := sN (sN (sL P 5 (4 * j + pN P 1 j) l) 2 (4 * j + pN P 1 j) c) 1 j (pN P 1 j + 1)
theorem sec_N1 {q : Nat} (l : Int64) (hq : q ≠ j) : pN (p_sec P j c l) 1 q = pN P 1 q := by
  show s2 (s2 P.2.1 2 (4 * j + pN P 1 j) c) 1 j (pN P 1 j + 1) 1 q = P.2.1 1 q
  rw [s2_i _ _ _ _ hq, s2_f _ _ _ _ (by decide)]
theorem sec_N2 {q : Nat} (l : Int64) (hq : q ≠ 4 * j + pN P 1 j) : pN (p_sec P j c l) 2 q = pN P 2 q := by
  show s2 (s2 P.2.1 2 (4 * j + pN P 1 j) c) 1 j (pN P 1 j + 1) 2 q = P.2.1 2 q
  rw [s2_f _ _ _ _ (by decide), s2_i _ _ _ _ hq]
theorem sec_L5 {q : Nat} (l : Int64) (hq : q ≠ 4 * j + pN P 1 j) : pL (p_sec P j c l) 5 q = pL P 5 q := by
  show s2 P.2.2.2 5 (4 * j + pN P 1 j) l 5 q = P.2.2.2 5 q
  rw [s2_i _ _ _ _ hq]
theorem wf_sec (w : wf v P) (hj : j < pa P) (hk : pN P 1 j < 4) (hc : c < pn P) (l : Int64) : wf v (p_sec P j c l) := by
  refine ⟨w.1, w.2.1, w.2.2.1, w.2.2.2.1, fun q hq => ?_, fun q hq k hk' => ?_, w.2.2.2.2.2.2⟩
  · show s2 _ 1 j (pN P 1 j + 1) 1 q ≤ 4
    by_cases e : q = j
    · subst e; rw [s2_self]; omega
    · rw [s2_i _ _ _ _ e]
      exact w.mn hq
  · have hk1 : k < s2 (s2 P.2.1 2 (4 * j + pN P 1 j) c) 1 j (pN P 1 j + 1) 1 q := hk'
    show s2 (s2 P.2.1 2 (4 * j + pN P 1 j) c) 1 j (pN P 1 j + 1) 2 (4 * q + k) < pn P
    rw [s2_f _ _ _ _ (by decide)]
    by_cases e : 4 * q + k = 4 * j + pN P 1 j
    · rw [e, s2_self]; exact hc
    · rw [s2_i _ _ _ _ e]
      by_cases e2 : q = j
      · subst e2
        rw [s2_self] at hk1
        exact w.hd hq (by omega)
      · rw [s2_i _ _ _ _ e2, s2_f _ _ _ _ (by decide)] at hk1
        exact w.hd hq hk1
theorem Rep.addSec (R : Rep u v X P M z h) (hj : j < pa P) (hk : pN P 1 j < 4) (hc : c < pn P) (l : Int64) :
    Rep u v X (p_sec P j c l) M z (mm_upd (mm_upd (mm_upd h (X.1 (300 + j)) (.inr (3, 4, updV (fun k => if k < pN P 1 j then .ref (X.1 (100 + pN P 2 (4 * j + k))) else .null) (pN P 1 j) (.ref (X.1 (100 + c)))))) (X.1 (400 + j)) (.inr (1, 4, updV (fun k => if k < 4 then .long (pL P 5 (4 * j + k)) else .long 0) (pN P 1 j) (.long l)))) (X.1 (200 + j)) (.inl (2, (fa X P j).set 2 (.int (nI (pN P 1 j + 1)))))) := by
  have a20 := R.a20
  have n60 := R.n60
  have w2 := R.2.2.2.2.2
  have l3 : lv X P (300 + j) := Or.inr (Or.inr (Or.inr (Or.inl (by omega))))
  have l4 : lv X P (400 + j) := Or.inr (Or.inr (Or.inr (Or.inr (by omega))))
  have l2 : lv X P (200 + j) := Or.inr (Or.inr (Or.inl (by omega)))
  refine ⟨fun t ht => ⟨?_, (R.1 t ht).2⟩, R.2.1, R.2.2.1, wf_sec R.wP hj hk hc l, R.wM, w2⟩
  have ht' : lv X P t := ht
  by_cases e2 : t = 200 + j
  · subst e2
    rw [mm_upd_self, ct_A (by omega)]
    unfold ctA fa
    show _ = some (Sum.inl (2, [_, _, Value.int (nI (s2 _ 1 j (pN P 1 j + 1) 1 j)), _]))
    rw [s2_self]
    rfl
  · rw [mm_upd_ne _ _ (fun q => e2 (R.2.1 _ _ ht' l2 q))]
    by_cases e4 : t = 400 + j
    · subst e4
      rw [mm_upd_self, ct_L (by omega)]
      unfold ctL
      refine congrArg (fun f => some (Sum.inr (1, 4, f) : mm_C)) ?_
      funext k
      show updV _ (pN P 1 j) (Value.long l) k = (if k < 4 then Value.long (s2 P.2.2.2 5 (4 * j + pN P 1 j) l 5 (4 * j + k)) else Value.long 0)
      unfold updV
      by_cases ek : k = pN P 1 j
      · subst ek
        rw [if_pos rfl, if_pos hk, s2_self]
      · rw [if_neg ek, s2_i _ _ _ _ (by omega)]
    · rw [mm_upd_ne _ _ (fun q => e4 (R.2.1 _ _ ht' l4 q))]
      by_cases e3 : t = 300 + j
      · subst e3
        rw [mm_upd_self, ct_H (by omega)]
        unfold ctH
        refine congrArg (fun f => some (Sum.inr (3, 4, f) : mm_C)) ?_
        funext k
        show updV _ (pN P 1 j) (Value.ref (X.1 (100 + c))) k = (if k < s2 (s2 P.2.1 2 (4 * j + pN P 1 j) c) 1 j (pN P 1 j + 1) 1 j then Value.ref (X.1 (100 + s2 (s2 P.2.1 2 (4 * j + pN P 1 j) c) 1 j (pN P 1 j + 1) 2 (4 * j + k))) else .null)
        rw [s2_self, s2_f _ _ _ _ (by decide)]
        unfold updV
        by_cases ek : k = pN P 1 j
        · subst ek
          rw [if_pos rfl, if_pos (by omega), s2_self]
        · rw [if_neg ek, s2_i _ _ _ _ (by omega)]
          dsimp only
          by_cases ek2 : k < pN P 1 j
          · rw [if_pos ek2, if_pos (by omega)]
          · rw [if_neg ek2, if_neg (by omega)]
      · rw [mm_upd_ne _ _ (fun q => e3 (R.2.1 _ _ ht' l3 q)), (R.1 t ht').1]
        refine congrArg some ?_
        unfold ct
        split
        · rfl
        · split
          · rfl
          · split
            · unfold ctA fa
              rw [sec_N1 l (by omega)]
              rfl
            · split
              · have hq : t - 300 < pa P := by rcases ht' with q | q | q | q | q <;> omega
                have e1 : pN (p_sec P j c l) 1 (t - 300) = pN P 1 (t - 300) := sec_N1 l (by omega)
                have m4 := R.wP.mn hq
                unfold ctH
                refine congrArg (fun f => (Sum.inr (3, 4, f) : mm_C)) ?_
                funext k
                rw [e1]
                split
                · rw [sec_N2 l (by omega)]
                · rfl
              · have hq : t - 400 < pa P := by rcases ht' with q | q | q | q | q <;> omega
                unfold ctL
                refine congrArg (fun f => (Sum.inr (1, 4, f) : mm_C)) ?_
                funext k
                split
                · rw [sec_L5 l (by omega)]
                · rfl
end MAKE
