/-! the turns of the calls that only read -/
section YW3
variable {σ τ A : sy_Mem} {t : Nat}
theorem ya_thr1 (c : Bool) : ya_thr c true true = if c then 0 else 1 := by cases c <;> rfl
section
variable {env : List Value} {k : List Value → sy_MM (Option Value)}
end
theorem yg_place {d p : Int32} (h : ya_X5_isPlace A d p = true) : (0 ≤ d.toInt ∧ d.toInt < 3) ∧ (0 ≤ p.toInt ∧ p.toInt < (ya_cnt A d).toInt) := by
  unfold ya_X5_isPlace at h
  rw [Bool.and_eq_true, yl_isD, Bool.and_eq_true, yl_ge, yl_lt, yl_c0] at h
  exact h
-- count
theorem yt_X5_count (W : ya_W σ) (a : Int32) : sf_X5_count [.ref 0, .int a] σ = if (decide (0 ≤ a) && decide (a < 3)) then some (.inl (some (.int (ya_cnt σ a))), σ) else some (.inr 1, σ) := by
  refine ee_meth ?_ rfl
  unfold sm_X5_count
  exact es_Q (es_need (ee_aI (ee_M (ee_aI (ee_L rfl) (ee_aI ee_K ee_aN)) (ee_cs (yt_X5_isIn σ a 3) rfl)) ee_aN) (ee_cs (yt_X5_needIndex σ _) rfl) (fun _ => es_eI (ee_M (ee_aR (ee_rF (ee_R rfl) rfl) (ee_aI (ee_L rfl) ee_aN)) (ee_cv (yt_X3_countOf σ a) rfl))))
-- area
theorem yt_X5_area (σ : sy_Mem) (a b : Int32) : sf_X5_area [.ref 0, .int a, .int b] σ = if ((decide (0 ≤ a) && decide (a < 4)) && (decide (0 ≤ b) && decide (b < 3))) then some (.inl (some (.int (ya_slot σ a b))), σ) else some (.inr 1, σ) := by
  refine ee_meth ?_ rfl
  unfold sm_X5_area
  exact es_Q (es_need (ee_aI (ee_iC (ee_cA (ee_cb (ee_M (ee_aI (ee_L rfl) (ee_aI ee_K ee_aN)) (ee_cs (yt_X5_isIn σ a 4) rfl))) (fun _ => ee_cb (ee_M (ee_aI (ee_L rfl) (ee_aI ee_K ee_aN)) (ee_cs (yt_X5_isIn σ b 3) rfl))))) ee_aN) (ee_cs (yt_X5_needIndex σ _) rfl) (fun _ => es_eI (ee_M (ee_aR (ee_R rfl) (ee_aI (ee_L rfl) (ee_aI (ee_L rfl) ee_aN))) (ee_cv (yt_X5_slotNumber σ a b) rfl))))
theorem yl_isSl {a b : Int32} (h : ((decide (0 ≤ a) && decide (a < 4)) && (decide (0 ≤ b) && decide (b < 3))) = true) : (0 ≤ a.toInt ∧ a.toInt < 4) ∧ (0 ≤ b.toInt ∧ b.toInt < 3) := by
  rw [Bool.and_eq_true, yl_isL, yl_isD] at h
  exact h
-- rowAt
theorem yt_X5_rowAt (W : ya_W σ) (d p : Int32) : sf_X5_rowAt [.ref 0, .int d, .int p] σ = if ya_X5_isPlace σ d p then some (.inl (some (.int (ya_X3_signOf σ (ya_at σ d p)))), σ) else some (.inr 1, σ) := by
  refine ee_meth ?_ rfl
  unfold sm_X5_rowAt
  exact es_Q (es_need (ee_aI (ee_M (ee_aR (ee_R rfl) (ee_aI (ee_L rfl) (ee_aI (ee_L rfl) ee_aN))) (ee_cv (yt_X5_isPlace W d p) rfl)) ee_aN) (ee_cs (yt_X5_needIndex σ _) rfl) (fun _ => es_eI (ee_M (ee_aR (ee_rF (ee_R rfl) rfl) (ee_aI (ee_M (ee_aR (ee_rF (ee_R rfl) rfl) (ee_aI (ee_L rfl) (ee_aI (ee_L rfl) ee_aN))) (ee_cv (yt_X3_segmentAt W d p) rfl)) ee_aN)) (ee_cv (yt_X3_signOf W _) rfl))))
-- fieldAt
theorem yt_X5_fieldAt (W : ya_W σ) (d p f : Int32) : sf_X5_fieldAt [.ref 0, .int d, .int p, .int f] σ = if (ya_X5_isPlace σ d p && (decide (0 ≤ f) && decide (f < 3))) then some (.inl (some (.int (ya_N σ (ya_at σ d p) f))), σ) else some (.inr 1, σ) := by
  refine ee_meth ?_ rfl
  unfold sm_X5_fieldAt
  exact es_Q (es_need (ee_aI (ee_iC (ee_cA (ee_cb (ee_M (ee_aR (ee_R rfl) (ee_aI (ee_L rfl) (ee_aI (ee_L rfl) ee_aN))) (ee_cv (yt_X5_isPlace W d p) rfl))) (fun _ => ee_cb (ee_M (ee_aI (ee_L rfl) (ee_aI ee_K ee_aN)) (ee_cs (yt_X5_isIn σ f 3) rfl))))) ee_aN) (ee_cs (yt_X5_needIndex σ _) rfl) (fun _ => es_eI (ee_M (ee_aR (ee_rF (ee_R rfl) rfl) (ee_aI (ee_M (ee_aR (ee_rF (ee_R rfl) rfl) (ee_aI (ee_L rfl) (ee_aI (ee_L rfl) ee_aN))) (ee_cv (yt_X3_segmentAt W d p) rfl)) (ee_aI (ee_L rfl) ee_aN))) (ee_cv (yt_X3_numberOf σ _ f) rfl))))
-- of a view
theorem yv_of {a : Int32} (h : (decide (0 ≤ a) && decide (a < 4)) = true) : a.toNatClampNeg < 4 ∧ a = nI a.toNatClampNeg := by
  have := yl_isL.mp h
  refine ⟨by rw [yi_clampInt]; omega, yi_nat (yi_pos.mpr this.1)⟩
theorem yt_X5_at (σ : sy_Mem) (a : Int32) : sf_X5_at [.ref 0, .int a] σ = if (decide (0 ≤ a) && decide (a < 4)) then some (.inl (some (.int (yL σ (ya_here σ a.toNatClampNeg)))), σ) else some (.inr 1, σ) := by
  refine ee_meth ?_ rfl
  unfold sm_X5_at
  exact es_Q (es_SRx (ee_aR (ee_R rfl) (ee_aI (ee_L rfl) ee_aN)) (ee_cv (yt_X5_viewOf σ a) rfl) (fun hx => es_eI (ee_M (ee_aR (ee_rF (ee_R rfl) rfl) (ee_aI (ee_M (ee_aR (ee_R rfl) ee_aN) (ee_cv (yt_X4_segmentAt σ (yv_of hx).1) (yv_rc (yv_of hx).1 rfl))) ee_aN)) (ee_cv (yt_X3_placeOf σ _) rfl))))
theorem yt_X5_ahead (W : ya_W σ) (a : Int32) : sf_X5_ahead [.ref 0, .int a] σ = if (decide (0 ≤ a) && decide (a < 4)) then some (.inl (some (.int (ya_X5_countAhead σ a.toNatClampNeg))), σ) else some (.inr 1, σ) := by
  refine ee_meth ?_ rfl
  unfold sm_X5_ahead
  have hv := yt_X5_viewOf σ a
  by_cases h : (decide (0 ≤ a) && decide (a < 4)) = true
  · rw [if_pos h] at hv ⊢
    exact es_eI (ee_M (ee_aR (ee_R rfl) (ee_aR (ee_rM (ee_aR (ee_R rfl) (ee_aI (ee_L rfl) ee_aN)) (ee_cv hv rfl)) ee_aN)) (ee_cv (yt_X5_countAhead W (yv_of h).1) rfl))
  · rw [if_neg h] at hv ⊢
    have e1 : sy_rM (sy_cv 5 1 sf_X5_viewOf) (sy_aR (sy_rL 0) (sy_aI (sy_iL 1) sy_aN)) [.ref 0, .int a] σ = some (.inr 1, σ) := by
      unfold sy_rM
      rw [sy_bnd_at (ee_aR (ee_R rfl) (ee_aI (ee_L rfl) ee_aN))]
      exact sy_bnd_ex (ee_cv hv rfl)
    have e2 : (sy_aR (sy_rM (sy_cv 5 1 sf_X5_viewOf) (sy_aR (sy_rL 0) (sy_aI (sy_iL 1) sy_aN))) sy_aN) [.ref 0, .int a] σ = some (.inr 1, σ) := sy_bnd_ex e1
    have e3 : (sy_aR (sy_rL 0) (sy_aR (sy_rM (sy_cv 5 1 sf_X5_viewOf) (sy_aR (sy_rL 0) (sy_aI (sy_iL 1) sy_aN))) sy_aN)) [.ref 0, .int a] σ = some (.inr 1, σ) := (sy_bnd_at (ee_R rfl)).trans (sy_bnd_ex e2)
    have e4 : sy_iM (sy_cv 5 1 sf_X5_countAhead) (sy_aR (sy_rL 0) (sy_aR (sy_rM (sy_cv 5 1 sf_X5_viewOf) (sy_aR (sy_rL 0) (sy_aI (sy_iL 1) sy_aN))) sy_aN)) [.ref 0, .int a] σ = some (.inr 1, σ) := sy_bnd_ex e3
    exact sy_bnd_ex e4
theorem yt_X5_parent (σ : sy_Mem) (a : Int32) : sf_X5_parent [.ref 0, .int a] σ = if (decide (0 ≤ a) && decide (a < 4)) then some (.inl (some (.int (yL σ (σ (sy_vw a.toNatClampNeg) 5)))), σ) else some (.inr 1, σ) := by
  refine ee_meth ?_ rfl
  unfold sm_X5_parent
  exact es_Q (es_SRx (ee_aR (ee_R rfl) (ee_aI (ee_L rfl) ee_aN)) (ee_cv (yt_X5_viewOf σ a) rfl) (fun hx => es_eI (ee_M (ee_aR (ee_rF (ee_R rfl) rfl) (ee_aI (ee_M (ee_aR (ee_R rfl) ee_aN) (ee_cv (yt_X4_parentSegment σ (yv_of hx).1) (yv_rc (yv_of hx).1 rfl))) ee_aN)) (ee_cv (yt_X3_placeOf σ _) rfl))))
theorem yt_X5_holds (σ : sy_Mem) (a : Int32) : sf_X5_holds [.ref 0, .int a] σ = if (decide (0 ≤ a) && decide (a < 4)) then some (.inl (some (.int (σ (sy_vw a.toNatClampNeg) 6))), σ) else some (.inr 1, σ) := by
  refine ee_meth ?_ rfl
  unfold sm_X5_holds
  exact es_Q (es_SRx (ee_aR (ee_R rfl) (ee_aI (ee_L rfl) ee_aN)) (ee_cv (yt_X5_viewOf σ a) rfl) (fun hx => es_eI (ee_M (ee_aR (ee_R rfl) ee_aN) (ee_cv (yt_X4_heldCount σ (yv_of hx).1) (yv_rc (yv_of hx).1 rfl)))))
end YW3
