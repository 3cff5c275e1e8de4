/-! get: what is kept by the component's, and the model's -/
section YG5
variable {σ τ A A' τ' : sy_Mem} {t : Nat}
theorem ya_mode_c {v w : Nat} (h : A' (sy_vw w) = A (sy_vw w)) : ya_mode A' w = ya_mode A w := by
  unfold ya_mode
  rw [h]
end YG5
