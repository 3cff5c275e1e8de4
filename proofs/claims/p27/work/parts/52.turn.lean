/-! a turn of the law: both calls, and what holds behind it -/
section YW1
variable {σ τ A A' τ' : sy_Mem} {t : Nat}
theorem yn_K_up (h : yn_K t σ) : yn_K (t + 1) σ := fun i hi => ⟨(h i hi).1, by have := (h i hi).2; omega⟩
theorem yn_I_up (I : yn_I t σ) : yn_I (t + 1) σ := by
  obtain ⟨a, b, c, d, e, f, g⟩ := I
  exact ⟨a, b, c, d, yn_K_up e, f, g⟩
theorem yn_I_lt (I : yn_I t σ) (h : ∀ k, k < 44 → τ k = σ k) : yn_I t τ := by
  obtain ⟨iS, iG, iW, iO, iK, iV, iA⟩ := I
  have hb : yc_base σ τ := fun k hk => h k (by omega)
  refine ⟨by rw [yn_S_c hb]; exact iS, by rw [yn_G_c hb]; exact iG, by rw [yn_W_c hb]; exact iW, by rw [yn_O_c hb]; exact iO, by rw [yn_K_c hb]; exact iK, fun w hw => ?_, yn_A_c (h 1 (by decide)) (fun k h1 h2 => h k (by omega)) (by rw [h 31 (by decide)]; exact iA.2.2.1) iA⟩
  have hb' := yv_lt hw
  rw [yn_v_c hb (h _ (by omega)) (h _ (by omega)) (h _ (by omega))]
  exact iV w hw
section
variable {env : List Value} {k : List Value → sy_MM (Option Value)}
end
end YW1
