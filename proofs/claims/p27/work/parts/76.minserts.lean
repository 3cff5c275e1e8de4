/-! the model's inserts -/
section YMi
variable {A τ : sy_Mem} {t : Nat} {ty p key here view : Int32}
theorem ya_cw_lt {P : Nat} : ∀ (n : Nat), ya_cw (fun i => decide (i < P)) n = if n ≤ P then n else P
  | 0 => by rw [if_pos (by omega)]; rfl
  | n + 1 => by
    rw [show ya_cw (fun i => decide (i < P)) (n + 1) = ya_cw (fun i => decide (i < P)) n + (if decide (n < P) then 1 else 0) from rfl, ya_cw_lt n]
    by_cases h : n < P
    · rw [if_pos (by omega), decide_eq_true h, if_pos rfl, if_pos (by omega)]
    · rw [decide_eq_false h, if_neg (show ¬ (false = true) by decide), if_neg (show ¬ n + 1 ≤ P by omega)]
      by_cases e : n ≤ P
      · rw [if_pos e]; omega
      · rw [if_neg e]; omega
end YMi
