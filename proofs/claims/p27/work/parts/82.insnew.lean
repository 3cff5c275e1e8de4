/-! the new ones of a call -/
section YIn
variable {A B τ τ' ρ : sy_Mem} {t m n f v : Nat} {ty p key here : Int32}
theorem ya_here_hi (h : yo_hi A B) (v : Nat) : ya_here B v = ya_here A v := by
  have hb : 17 < sy_vw v := by unfold sy_vw; omega
  unfold ya_here
  rw [h _ (Or.inr hb)]
theorem ya_here_l (I : yn_I t A) (hv : v < 4) : ya_here A v = -1 ∨ yl A (ya_here A v) := by
  have h := yg_here I hv
  by_cases e : A (sy_vw v) 3 = 0
  · exact Or.inl (h.1 e).1
  · have := h.2 e
    rw [this.1]
    exact Or.inr this.2.2
def ya_inw (A : sy_Mem) (f : Nat) (p here : Int32) : Nat → sy_Mem × Int32
  | 0 => (A, p)
  | n + 1 => (ya_fil (ya_add (ya_inw A f p here n).1 (ya_ag A 20 (-1) (nI (f + n))) (ya_inw A f p here n).2 (ya_slot A (nI n) 0) here) (ya_fr (ya_inw A f p here n).1) n 3, nI (ya_fr (ya_inw A f p here n).1))
/-- what is asked of a list of new ones -/
def yi_ok (A : sy_Mem) (v f : Nat) (p : Int32) : Prop := (f : Int) < (A 19 0).toInt ∧ (A 10 9).toInt + ((A 19 0).toInt - f) ≤ 60 ∧ (∀ j : Nat, f ≤ j → (j : Int) < (A 19 0).toInt → tD A (ya_ag A 20 (-1) (nI j)) = A (sy_vw v) 0) ∧
  (∀ j : Nat, f < j → (j : Int) < (A 19 0).toInt → tP A (ya_ag A 20 (-1) (nI j)) = ya_ag A 20 (-1) (nI (j - 1))) ∧
  ((p = -1 ∧ tP A (ya_ag A 20 (-1) (nI f)) = -1) ∨ (yl A p ∧ yT A p = tP A (ya_ag A 20 (-1) (nI f)) ∧ tP A (ya_ag A 20 (-1) (nI f)) ≠ -1)) ∧
  (tK A (ya_ag A 20 (-1) (nI f)) = 0 → ∀ r, yl A r → yT A r = ya_ag A 20 (-1) (nI f) → yP A r = p → ya_N A r 0 ≠ ya_slot A 0 0)
end YIn
