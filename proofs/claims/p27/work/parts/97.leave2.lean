section YLw
variable {X τ : sy_Mem} {t v : Nat} {s : Int32} {D : Nat → Bool}
theorem es_hit {c : sy_CE} {s : sy_S} {E : Nat → List Value} {P : Nat → Bool} {σ σ' : sy_Mem} {k : List Value → sy_MM (Option Value)} {N : Nat} (hc : ∀ i, i < N → c (E i) σ = some (.inl true, σ)) (he : c (E N) σ = some (.inl false, σ)) (hc' : ∀ i, i ≤ N → c (E i) σ' = some (.inl false, σ')) (hs : ∀ i, i < N → ∀ k', s (E i) k' σ = k' (E (i + 1)) (if P i = true then σ' else σ)) (hk : ∀ i ρ, k (E i) ρ = some (.inl none, ρ)) :
    ∀ n i m : Nat, i + n = N → n < m → sy_wh c s m (E i) k σ = some (.inl none, if (ya_ff P n i).isSome = true then σ' else σ)
  | 0, i, m + 1, hi, _ => by
    rw [Nat.add_zero] at hi
    subst hi
    unfold sy_wh
    rw [sy_bnd_at he]
    exact hk _ _
  | n + 1, i, m + 1, hi, hm => by
    unfold sy_wh
    rw [sy_bnd_at (hc i (by omega))]
    show s (E i) _ σ = _
    rw [hs i (by omega), show ya_ff P (n + 1) i = if P i then some i else ya_ff P n (i + 1) from rfl]
    cases hP : P i with
    | false =>
      show sy_wh c s m (E (i + 1)) k σ = some (Sum.inl none, if (ya_ff P n (i + 1)).isSome = true then σ' else σ)
      exact es_hit hc he hc' hs hk n (i + 1) m (by omega) (by omega)
    | true =>
      obtain ⟨m, rfl⟩ : ∃ z, m = z + 1 := ⟨m - 1, by omega⟩
      show sy_wh c s (m + 1) (E (i + 1)) k σ' = some (Sum.inl none, σ')
      unfold sy_wh
      rw [sy_bnd_at (hc' (i + 1) (by omega))]
      exact hk _ _
  | _, _, 0, _, hm => absurd hm (by omega)
def yv_sp (D : Nat → Bool) (X : sy_Mem) (v : Nat) : Prop := ya_dmd D (X (sy_vw v) 2) = false ∧ ya_dmd D (X (sy_vw v) 5) = false ∧ ∀ i : Nat, (i : Int) < (X (sy_vw v) 6).toInt → ya_dmd D (X (sy_vw v + 1) i) = false
end YLw
