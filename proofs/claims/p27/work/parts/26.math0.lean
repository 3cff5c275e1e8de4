section SYV
/-- a while loop over n turns -/
theorem sy_wh_run {c : sy_CE} {s : sy_S} {I : Nat → List Value → sy_Mem → Prop} {N : Nat}
    (go : ∀ t env σ, t < N → I t env σ → c env σ = some (.inl true, σ) ∧ ∃ env' τ, I (t + 1) env' τ ∧ ∀ k, s env k σ = k env' τ)
    (stop : ∀ env σ, I N env σ → c env σ = some (.inl false, σ)) (k : List Value → sy_MM (Option Value)) :
    ∀ (j t m : Nat) (env : List Value) (σ : sy_Mem), t + j = N → j < m → I t env σ → ∃ env' τ, I N env' τ ∧ sy_wh c s m env k σ = k env' τ
  | 0, t, m + 1, env, σ, ht, _, hI => by
    obtain rfl : t = N := ht
    refine ⟨env, σ, hI, ?_⟩
    unfold sy_wh sy_bnd
    rw [stop env σ hI]
    rfl
  | j + 1, t, m + 1, env, σ, ht, hm, hI => by
    obtain ⟨h1, env', τ, h2, h3⟩ := go t env σ (by omega) hI
    obtain ⟨env2, τ2, h4, h5⟩ := sy_wh_run go stop k j (t + 1) m env' τ (by omega) (by omega) h2
    refine ⟨env2, τ2, h4, ?_⟩
    unfold sy_wh sy_bnd
    rw [h1]
    show s env (fun env' => sy_wh c s m env' k) σ = _
    rw [h3]
    exact h5
  | _, _, 0, _, _, _, hm, _ => absurd hm (by omega)
theorem nI_sub5 {i L : Nat} (hi : i < 10000) (hL : L < 10000) : (nI i ≤ nI L - 5) ↔ i + 5 ≤ L := by
  rw [Int32.le_iff_toInt_le, Int32.toInt_sub, nI_toInt (by omega), nI_toInt (by omega), show (5 : Int32).toInt = 5 from rfl]
  rw [Int.bmod_eq_of_le (by omega) (by omega)]
  omega
end SYV
