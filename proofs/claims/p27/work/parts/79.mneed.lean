/-! the roots that are needed: the model's, and both -/
section YQm
variable {A τ τ' : sy_Mem} {t n : Nat} {ty key : Int32}
def yq_1 (A : sy_Mem) (u key : Int32) : Prop := ya_isT A u = true ∧ tP A u = -1 ∧ (0 ≤ key.toInt ∧ key.toInt ≤ 999) ∧ ya_X3_rootOf A u key = -1
def yq (A τ : sy_Mem) (n : Nat) : Prop := τ 44 33 = A 27 0 ∧ (0 ≤ (A 27 0).toInt ∧ (A 27 0).toInt ≤ n) ∧ (∀ i : Nat, (i : Int) < (A 27 0).toInt → τ 75 i = A 28 i ∧ τ 76 i = A 29 i ∧ yq_1 A (A 28 i) (A 29 i)) ∧ ∀ i j : Nat, (i : Int) < (A 27 0).toInt → j < i → ¬ (A 28 j = A 28 i ∧ A 29 j = A 29 i)
def yq_g (τ τ' : sy_Mem) : Prop := (∀ k, k ≠ 44 → k ≠ 75 → k ≠ 76 → τ' k = τ k) ∧ ∀ i, i ≠ 33 → τ' 44 i = τ 44 i
theorem yq_g_trans {τ'' : sy_Mem} (h1 : yq_g τ τ') (h2 : yq_g τ' τ'') : yq_g τ τ'' := ⟨fun k a b c => (h2.1 k a b c).trans (h1.1 k a b c), fun i hi => (h2.2 i hi).trans (h1.2 i hi)⟩
theorem yq_tG (I : yn_I t A) (hty : ya_isT A ty = true) (h : ¬ tG A ty = -1) : ya_isT A (tG A ty) = true ∧ tP A (tG A ty) = -1 := by
  obtain ⟨_, _, _, _, _, _, _, g⟩ := I.1.2.1 _ hty
  exact g.resolve_left h
theorem yq_27 (h0 : 0 ≤ (A 27 0).toInt) : ya_nr A ty key 27 1 = if (ya_nc0 A ty key || !decide (tC A ty = 0)) = true then A 27 1 else 1 := by
  unfold ya_nr
  by_cases e0 : ya_nc0 A ty key = true
  · rw [if_pos e0, e0]
    rfl
  · rw [if_neg e0, show ya_nc0 A ty key = false by simpa using e0]
    by_cases e1 : tC A ty = 0
    · rw [if_pos e1, e1]
      rfl
    · rw [if_neg e1, decide_eq_false e1]
      show ya_ndd _ _ _ 27 1 = A 27 1
      unfold ya_ndd
      cases ya_nf A (tG A ty) key with
      | some i => rfl
      | none =>
        show sy_up _ 27 0 _ 27 1 = _
        rw [yu_an (by decide), yu_ne (by decide), yu_ne (by decide)]
end YQm
