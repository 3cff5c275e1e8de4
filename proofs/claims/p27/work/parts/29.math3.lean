section SYV3
def sy_rI : Int32 ⊕ Nat → sy_Rs
  | .inl x => .inl (some (.int x))
  | .inr E => .inr E
theorem sy_bnd_at {α β : Type} {m : sy_MM α} {k : α → sy_MM β} {σ τ : sy_Mem} {a : α} (h : m σ = some (.inl a, τ)) : sy_bnd m k σ = k a τ := by
  unfold sy_bnd
  rw [h]
end SYV3
