section SYV4
/-- the two answers are alike: the model's telling is the helper's number, and where nothing was thrown the numbers are the same -/
def sy_alike (r : Int32 ⊕ Nat) (y : Int32) (τ : sy_Mem) : Prop := τ 44 36 = sy_code r ∧ ∀ x, r = .inl x → y = x ∧ sy_jn (τ 77 0) (τ 77 1) = x.toInt64
/-- the end of a case: both compared -/
def sy_cmpI : sy_S := sy_sQ (sy_sI (sy_cne (sy_iM (sy_cv 6 0 sf_X6_thrown) (sy_aR (sy_rL 2) sy_aN)) (sy_iL 5)) (sy_eZ (sy_iK 0)) sy_sN) (sy_sI (sy_cA (sy_ceq (sy_iL 5) (sy_iK 0)) (sy_cLn (sy_lA (sy_rL 3) (sy_iK 0)) (sy_lI (sy_iL 6)))) (sy_eZ (sy_iK 0)) sy_sN)
theorem sy_cmpI_ok {bs t : Nat} {r : Int32 ⊕ Nat} {y : Int32} {τ : sy_Mem} (hE : ∀ E, r = .inr E → 1 ≤ E ∧ E ≤ 3) (h : sy_alike r y τ) (k : List Value → sy_MM (Option Value)) :
    sy_cmpI (sy_env5 bs t ++ [.int (sy_code r), .int y]) k τ = k (sy_env5 bs t ++ [.int (sy_code r), .int y]) τ := by
  obtain ⟨h1, h2⟩ := h
  have e1 : sy_cne (sy_iM (sy_cv 6 0 sf_X6_thrown) (sy_aR (sy_rL 2) sy_aN)) (sy_iL 5) (sy_env5 bs t ++ [.int (sy_code r), .int y]) τ = some (.inl (!decide (τ 44 36 = sy_code r)), τ) := rfl
  have e2 : sy_cLn (sy_lA (sy_rL 3) (sy_iK 0)) (sy_lI (sy_iL 6)) (sy_env5 bs t ++ [.int (sy_code r), .int y]) τ = some (.inl (!decide (sy_jn (τ 77 0) (τ 77 1) = y.toInt64)), τ) := rfl
  have e3 : sy_ceq (sy_iL 5) (sy_iK 0) (sy_env5 bs t ++ [.int (sy_code r), .int y]) τ = some (.inl (decide (sy_code r = 0)), τ) := rfl
  unfold sy_cmpI sy_sQ sy_sI
  rw [sy_bnd_at e1, h1]
  simp only [decide_true, Bool.not_true, Bool.false_eq_true, if_false]
  show sy_bnd (sy_cA _ _ _) _ τ = _
  have e4 : sy_cA (sy_ceq (sy_iL 5) (sy_iK 0)) (sy_cLn (sy_lA (sy_rL 3) (sy_iK 0)) (sy_lI (sy_iL 6))) (sy_env5 bs t ++ [.int (sy_code r), .int y]) τ = some (.inl false, τ) := by
    unfold sy_cA
    rw [sy_bnd_at e3]
    cases r with
    | inl x =>
      obtain ⟨rfl, h4⟩ := h2 x rfl
      rw [decide_eq_true (show sy_code (.inl y) = 0 from rfl), if_pos rfl, e2, h4, decide_eq_true rfl]
      rfl
    | inr E =>
      obtain ⟨a, b⟩ := hE E rfl
      have : ¬ sy_code (.inr E) = 0 := by
        rcases (show E = 1 ∨ E = 2 ∨ E = 3 by omega) with rfl | rfl | rfl <;> decide
      rw [decide_eq_false this]
      rfl
  rw [sy_bnd_at e4]
  rfl
end SYV4
