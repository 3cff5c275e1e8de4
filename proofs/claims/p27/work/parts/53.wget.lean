section YW2
variable {σ τ A : sy_Mem} {t : Nat}
theorem ya_seek_ge {v : Nat} (hv : v < 4) {how : Int32} {h : Bool} {k : Nat} (hk : 44 ≤ k) : (ya_seek σ v how h).2 k = σ k := by
  have hb := yv_lt hv
  have hD : ∀ x, ya_deliver σ v x h k = σ k := fun x => ya_deliver_ne σ (by omega) (by omega) (by omega) (by omega)
  unfold ya_seek
  by_cases h1 : ya_X5_isListOrdered σ v = false
  · rw [if_pos h1]
  · rw [if_neg h1]
    by_cases h2 : how = 2 ∧ σ (sy_vw v) 5 = -1
    · rw [if_pos h2]
    · rw [if_neg h2]
      by_cases h3 : ya_finds σ v how = -1
      · rw [if_pos h3]
        cases (!decide (how = 1) || decide (0 < σ 19 0))
        · exact ya_stand_ne (by omega)
        · rfl
      · rw [if_neg h3]
        show ya_got σ v how h _ k = _
        unfold ya_got
        rw [ya_stand_ne (by omega)]
        cases decide (how = 2)
        · show sy_up _ (sy_vw v) 5 _ k = _
          rw [yu_ne (by omega), hD]
        · exact hD _
end YW2
