section SYV6
theorem case_5 {bs t : Nat} {σ : sy_Mem} (h : σ 19 0 = σ 44 24) (k : List Value → sy_MM (Option Value)) : sm_L_5 (sy_env5 bs t) k σ = k (sy_env5 bs t) (sy_up (sy_up (sy_up σ 19 0 0) 44 24 0) 44 36 0) := by
  have e : sy_cne (sy_iM (sy_cv 5 0 sf_X5_clear) (sy_aR (sy_rL 1) sy_aN)) (sy_iM (sy_cv 6 0 sf_X6_clear) (sy_aR (sy_rL 2) sy_aN)) (sy_env5 bs t) σ = some (.inl (!decide (σ 19 0 = σ 44 24)), sy_up (sy_up (sy_up σ 19 0 0) 44 24 0) 44 36 0) := rfl
  unfold sm_L_5 sy_sI
  rw [sy_bnd_at e, decide_eq_true h]
  rfl
theorem case_12 {bs t : Nat} {σ : sy_Mem} (h : σ 1 0 = σ 44 0) (k : List Value → sy_MM (Option Value)) : sm_L_12 (sy_env5 bs t) k σ = k (sy_env5 bs t) (sy_up σ 44 36 0) := by
  have e : sy_cne (sy_iM (sy_cv 5 0 sf_X5_types) (sy_aR (sy_rL 1) sy_aN)) (sy_iM (sy_cv 6 0 sf_X6_types) (sy_aR (sy_rL 2) sy_aN)) (sy_env5 bs t) σ = some (.inl (!decide (σ 1 0 = σ 44 0)), sy_up σ 44 36 0) := rfl
  unfold sm_L_12 sy_sI
  rw [sy_bnd_at e, decide_eq_true h]
  rfl
end SYV6
