section SYV2
theorem f_X6_thrown (σ : sy_Mem) : sf_X6_thrown [.ref 44] σ = some (.inl (some (.int (σ 44 36))), σ) := rfl
theorem f_X6_clears (σ : sy_Mem) : sf_X6_clears [.ref 44] σ = some (.inl (some (.int (σ 44 24))), sy_up σ 44 24 0) := rfl
theorem f_X6_told (σ : sy_Mem) (x : Int32) : sf_X6_told [.ref 44, .int x] σ = some (.inl (some (.int x)), sy_up σ 44 36 0) := rfl
theorem f_X6_clear (σ : sy_Mem) : sf_X6_clear [.ref 44] σ = some (.inl (some (.int (σ 44 24))), sy_up (sy_up σ 44 24 0) 44 36 0) := rfl
theorem f_X0_drop (σ : sy_Mem) : sf_X0_drop [.ref 19] σ = some (.inl (some (.int (σ 19 0))), sy_up σ 19 0 0) := rfl
theorem f_X5_clear (σ : sy_Mem) : sf_X5_clear [.ref 0] σ = some (.inl (some (.int (σ 19 0))), sy_up σ 19 0 0) := rfl
end SYV2
