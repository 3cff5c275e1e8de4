/-! the turns of put, open, argument, condition -/
section YW4
variable {σ τ A : sy_Mem} {t : Nat}
theorem yn_I_n (I : yn_I t σ) (h : yc_base σ τ) (hw : ∀ k, 32 ≤ k → k ≤ 43 → τ k = σ k) (hA : yn_A τ) : yn_I t τ := by
  obtain ⟨iS, iG, iW, iO, iK, iV, iA⟩ := I
  refine ⟨by rw [yn_S_c h]; exact iS, by rw [yn_G_c h]; exact iG, by rw [yn_W_c h]; exact iW, by rw [yn_O_c h]; exact iO, by rw [yn_K_c h]; exact iK, fun w hw4 => ?_, hA⟩
  have hb := yv_lt hw4
  rw [yn_v_c h (hw _ (by omega) (by omega)) (hw _ (by omega) (by omega)) (hw _ (by omega) (by omega))]
  exact iV w hw4
-- put
theorem yt_X5_put (σ : sy_Mem) (a b x : Int32) : sf_X5_put [.ref 0, .int a, .int b, .int x] σ = if ((decide (0 ≤ a) && decide (a < 4)) && (decide (0 ≤ b) && decide (b < 3))) then (if (decide (0 ≤ x) && decide (x < 1000)) then (if true then some (.inl (some (.int (ya_slot σ a b))), sy_up σ 31 (3 * a.toNatClampNeg + b.toNatClampNeg) x) else some (.inr 3, σ)) else some (.inr 2, σ)) else some (.inr 1, σ) := by
  refine ee_meth ?_ rfl
  unfold sm_X5_put
  exact es_Q (es_need (ee_aI (ee_iC (ee_cA (ee_cb (ee_M (ee_aI (ee_L rfl) (ee_aI ee_K ee_aN)) (ee_cs (yt_X5_isIn σ a 4) rfl))) (fun _ => ee_cb (ee_M (ee_aI (ee_L rfl) (ee_aI ee_K ee_aN)) (ee_cs (yt_X5_isIn σ b 3) rfl))))) ee_aN) (ee_cs (yt_X5_needIndex σ _) rfl) (fun h => es_Q (es_need (ee_aI (ee_M (ee_aI (ee_L rfl) (ee_aI ee_K ee_aN)) (ee_cs (yt_X5_isIn σ x 1000) rfl)) ee_aN) (ee_cs (yt_X5_needRange σ _) rfl) (fun _ => es_Q (es_SI (ee_M (ee_aR (ee_R rfl) (ee_aI (ee_L rfl) (ee_aI (ee_L rfl) ee_aN))) (ee_cv (yt_X5_slotNumber σ a b) rfl)) (es_Q (es_C (ee_aR (ee_R rfl) (ee_aI (ee_L rfl) (ee_aI (ee_L rfl) (ee_aI (ee_L rfl) ee_aN)))) (ee_cv (yt_X5_setSlotNumber σ a b x (yl_isSl h).1 (yl_isSl h).2) rfl) ((es_eI (ee_L rfl)).trans (if_pos rfl).symm))))))))
theorem yl_isN {x : Int32} : ((decide (0 ≤ x) && decide (x < 1000)) = true) = (0 ≤ x.toInt ∧ x.toInt < 1000) := by
  rw [Bool.and_eq_true, yl_ge, yl_lt, yl_c0]
  rfl
end YW4
