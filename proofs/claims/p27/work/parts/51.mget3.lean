section YG7
variable {σ τ A : sy_Mem} {t : Nat}
theorem yu_same {k i : Nat} : sy_up σ k i (σ k i) = σ := by
  funext k' j
  by_cases h : k' = k
  · subst h
    by_cases e : j = i
    · rw [e, yu_at]
    · rw [yu_an e]
  · rw [yu_ne h]
/-- behind i turns of the model's loop over the arguments -/
def ya_cm (A : sy_Mem) (v : Nat) (x : Int32) (h : Bool) (i : Nat) : sy_Mem := if i < (A 19 0).toNatClampNeg then ya_dl A v x h i else ya_deliver A v x h
def ya_cs (A : sy_Mem) (i : Nat) : Nat := if i < (A 19 0).toNatClampNeg ∨ i = 0 then ya_sl A i else ya_sl A ((A 19 0).toNatClampNeg - 1) + 1
def ya_status (A : sy_Mem) (v : Nat) (how x : Int32) : Int32 := if how = 0 then 0 else ya_X5_statusOfStep A (ya_here A v) x
/-- the component's memory behind get keeps all -/
theorem yn_got (I : yn_I t A) {v : Nat} (hv : v < 4) (x how : Int32) (h : Bool) (h6 : A (sy_vw v) 6 = 0) (hL : ya_X5_isListOrdered A v = true) (hx : yl A x) (hxD : sD A x = A (sy_vw v) 0) (hR : ya_X5_isRight A v x (A 19 0).toNatClampNeg = true) : yn_I t (ya_got A v how h x) := by
  have hb := yv_lt hv
  have h19 := yg_n19 I
  have hup : ∀ i, i < (A 19 0).toNatClampNeg → yl A (ya_X3_upward A x (ya_ag A 20 (-1) (nI i))) := fun i hi => (yg_ups I hL hx hR hi).1
  have ID := yn_deliver I hv (x := x) (h := h) h6 hx hup
  have hparI : ∀ n, n ≤ (A 19 0).toNatClampNeg → (yl A (ya_par A x n) ∧ sD A (ya_par A x n) = A (sy_vw v) 0) := by
    intro n
    induction n with
    | zero => exact fun _ => ⟨hx, hxD⟩
    | succ n ih =>
      intro hn
      rw [show ya_par A x (n + 1) = if ya_code A (nI n) 16 then ya_X3_upward A x (ya_ag A 20 (-1) (nI n)) else ya_par A x n from rfl]
      by_cases hc : ya_code A (nI n) 16 = true
      · rw [if_pos hc]
        exact ⟨hup n (by omega), (yg_ups I hL hx hR (show n < _ by omega)).2.1⟩
      · rw [if_neg hc]
        exact ih (by omega)
  have hDk : ∀ {k : Nat}, k ≠ 31 → k ≤ 31 → ya_deliver A v x h k = A k := fun h1 h2 => ya_deliver_ne A h1 (by omega) (by omega) (by omega)
  have hD0 : ya_deliver A v x h (sy_vw v) 0 = A (sy_vw v) 0 := by
    unfold ya_deliver
    rw [ya_one_vw _ hv (by decide), ya_dl_vw A hv (by decide)]
  have e2 : ∀ s, sD (ya_deliver A v x h) s = sD A s := fun s => sD_c (hDk (by decide) (by decide)) (hDk (by decide) (by decide)) (hDk (by decide) (by decide)) s
  have e1 : ∀ s, yl (ya_deliver A v x h) s = yl A s := fun s => yl_c (hDk (by decide) (by decide)) s
  unfold ya_got
  cases decide (how = 2)
  · have hp := hparI _ (Nat.le_refl _)
    have hk : ∀ k, k ≠ sy_vw v → sy_up (ya_deliver A v x h) (sy_vw v) 5 (ya_par A x (A 19 0).toNatClampNeg) k = ya_deliver A v x h k := fun k h => yu_ne h
    have I4 : yn_I t (sy_up (ya_deliver A v x h) (sy_vw v) 5 (ya_par A x (A 19 0).toNatClampNeg)) := yn_setpar ID hv (Or.inr ⟨by rw [e1]; exact hp.1, by rw [hD0, e2]; exact hp.2⟩)
    refine yn_stand I4 hv (Or.inr ⟨?_, ?_⟩) (Or.inr ⟨rfl, yl_ne hx⟩) (Or.inl rfl)
    · rw [yl_c (hk 11 (by omega)), e1]; exact hx
    · rw [show sD (sy_up (ya_deliver A v x h) (sy_vw v) 5 (ya_par A x (A 19 0).toNatClampNeg)) x = sD (ya_deliver A v x h) x from sD_c (hk 1 (by omega)) (hk 2 (by omega)) (hk 11 (by omega)) x, e2, yu_an (by decide), hD0]
      exact hxD
  · refine yn_stand ID hv (Or.inr ⟨by rw [e1]; exact hx, by rw [e2, hD0]; exact hxD⟩) (Or.inr ⟨rfl, yl_ne hx⟩) (Or.inl rfl)
end YG7
