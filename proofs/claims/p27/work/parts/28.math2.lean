section SYV2
theorem f_X0_drop (σ : sy_Mem) : sf_X0_drop [.ref 19] σ = some (.inl (some (.int (σ 19 0))), sy_up σ 19 0 0) := rfl
theorem f_X5_clear (σ : sy_Mem) : sf_X5_clear [.ref 0] σ = some (.inl (some (.int (σ 19 0))), sy_up σ 19 0 0) := rfl
end SYV2
