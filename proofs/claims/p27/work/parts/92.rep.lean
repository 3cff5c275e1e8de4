/-! replaceHeld and replaces, and the turn of replace -/
section YRp
variable {A B X Y τ τ0 σ : sy_Mem} {t v : Nat}
/-- released, it is the other memory -/
theorem yo_rel (hv : v < 4) (h : yo_lo X Y) (hX : ∀ k, 32 ≤ k → X k = A k) (hY : ∀ k, 32 ≤ k → Y k = sy_up A (sy_vw v) 6 0 k) : sy_up X (sy_vw v) 6 0 = Y := by
  have hb := yv_lt hv
  funext k
  by_cases e : k = sy_vw v
  · rw [e, yu_eq, hX _ (by omega), hY _ (by omega), yu_eq]
  · rw [yu_ne e]
    by_cases h32 : k < 32
    · exact (h k h32).symm
    · rw [hX k (by omega), hY k (by omega), yu_ne e]
end YRp
