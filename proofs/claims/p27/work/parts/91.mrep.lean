/-! the model's gathering for held ones -/
section YMg
variable {A B τ τ' : sy_Mem} {t n N v : Nat} {hl : Nat → Int32} {kp : Nat → Bool}
/-- no key would be changed -/
def ya_sk (A : sy_Mem) (hl : Nat → Int32) (kp : Nat → Bool) : Nat → Bool
  | 0 => true
  | n + 1 => if kp n = true then ya_sk A hl kp n else ya_sk A hl kp n && (decide (tK A (yT A (hl n)) = 2) || decide (ya_N A (hl n) 0 = ya_slot A (nI n) 0))
theorem ya_sk_iff : ∀ {n : Nat}, ya_sk A hl kp n = true ↔ ∀ i, i < n → kp i = false → tK A (yT A (hl i)) = 2 ∨ ya_N A (hl i) 0 = ya_slot A (nI i) 0
  | 0 => ⟨fun _ i hi => absurd hi (by omega), fun _ => rfl⟩
  | n + 1 => by
    unfold ya_sk
    have ih := ya_sk_iff (n := n)
    by_cases e : kp n = true
    · rw [if_pos e, ih]
      constructor
      · intro h i hi hk
        rcases Nat.lt_or_ge i n with q | q
        · exact h i q hk
        · rw [show i = n by omega, e] at hk
          cases hk
      · intro h i hi
        exact h i (by omega)
    · rw [if_neg e, Bool.and_eq_true, Bool.or_eq_true, decide_eq_true_eq, decide_eq_true_eq, ih]
      constructor
      · rintro ⟨h1, h2⟩ i hi hk
        rcases Nat.lt_or_ge i n with q | q
        · exact h1 i q hk
        · rw [show i = n by omega]
          exact h2
      · intro h
        exact ⟨fun i hi => h i (by omega), h n (by omega) (by simpa using e)⟩
theorem ya_sk_wck (I : yn_I t A) (hv : v < 4) : ya_X5_wouldChangeKey A v = !ya_sk A (fun i => ya_held A v (nI i)) (fun i => ya_kept A v (nI i)) (A (sy_vw v) 6).toNatClampNeg := by
  have h : (ya_sk A (fun i => ya_held A v (nI i)) (fun i => ya_kept A v (nI i)) (A (sy_vw v) 6).toNatClampNeg = true) ↔ ya_X5_wouldChangeKey A v = false := by
    rw [ya_sk_iff]
    unfold ya_X5_wouldChangeKey
    cases hff : ya_ff (fun i => (((!decide ((ya_tg A 5 (-1) (ya_sg A 11 (ya_held A v (nI i)))) = 2)) && (!(ya_kept A v (nI i)))) && (!decide ((ya_N A (ya_held A v (nI i)) 0) = (ya_slot A (nI i) 0))))) (((A (sy_vw v) 6)).toNatClampNeg) 0 with
    | none =>
      refine ⟨fun _ => rfl, fun _ i hi hk => ?_⟩
      have := ya_ff_none.mp hff i (by omega) (by omega)
      rw [Bool.and_eq_false_iff, Bool.and_eq_false_iff, hk] at this
      rcases this with (q | q) | q
      · exact Or.inl (by simpa using q)
      · cases q
      · exact Or.inr (by simpa using q)
    | some j =>
      obtain ⟨h1, h2, h3, _⟩ := ya_ff_some.mp hff
      refine ⟨fun h => ?_, fun h => by cases h⟩
      exfalso
      rw [Bool.and_eq_true, Bool.and_eq_true] at h3
      rcases h j (by omega) (by simpa using h3.1.2) with q | q
      · have := h3.1.1
        rw [show ya_tg A 5 (-1) (ya_sg A 11 (ya_held A v (nI j))) = 2 from q] at this
        exact absurd this (by decide)
      · have := h3.2
        rw [q, decide_eq_true rfl] at this
        cases this
  cases e : ya_sk A (fun i => ya_held A v (nI i)) (fun i => ya_kept A v (nI i)) (A (sy_vw v) 6).toNatClampNeg with
  | true => exact h.mp e
  | false =>
    cases e2 : ya_X5_wouldChangeKey A v with
    | true => rfl
    | false =>
      rw [h.mpr e2] at e
      cases e
end YMg
