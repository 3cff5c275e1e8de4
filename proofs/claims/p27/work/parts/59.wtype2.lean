section YW8
variable {σ τ A : sy_Mem} {t : Nat}
/-- the tests of type: there is such a one; it is in range; it may be now -/
def ya_ty1 (σ : sy_Mem) (d p : Int32) : Bool := (decide (0 ≤ d) && decide (d < 3)) && (decide (p = -1) || ya_isT σ p)
def ya_ty2 (σ : sy_Mem) (d p k r : Int32) : Bool := ((decide (p = -1) || decide (tD σ p = d)) && ((decide (0 ≤ k) && decide (k < 3)) && (decide (0 ≤ r) && decide (r < 3)))) && (!decide (p = -1) || decide (k = 0))
def ya_ty3 (σ : sy_Mem) (d p : Int32) : Bool := (decide (ya_cnt σ d = 0) && (!decide (p = -1) || !ya_X2_hasRootType σ d)) && (decide (ya_X2_levelBelow σ p ≤ 4) && decide (σ 1 0 < 12))
theorem yg_nT (I : yn_I t σ) : (σ 1 0).toInt = ((σ 1 0).toNatClampNeg : Int) ∧ (σ 1 0).toNatClampNeg ≤ 12 ∧ σ 1 0 = nI (σ 1 0).toNatClampNeg := by
  have := I.1.1
  refine ⟨by rw [yi_clampInt]; omega, by rw [yi_clampInt]; omega, yi_nat (yi_pos.mpr this.1)⟩
theorem yb_ty (c1 c2 c3 c4 c5 c6 c7 : Bool) (r r1 r2 r3 : Option (((Option Value) ⊕ Nat) × sy_Mem)) : (if c1 then (if c2 then (if c3 then (if c4 then (if c5 then (if c6 then (if c7 then r else r3) else r3) else r3) else r2) else r2) else r2) else r1) = if c1 then (if ((c2 && c3) && c4) then (if ((c5 && c6) && c7) then r else r3) else r2) else r1 := by
  cases c1 <;> cases c2 <;> cases c3 <;> cases c4 <;> cases c5 <;> cases c6 <;> cases c7 <;> rfl
theorem yt_X5_type (I : yn_I t σ) (d p k r : Int32) : sf_X5_type [.ref 0, .int d, .int p, .int k, .int r] σ = if ya_ty1 σ d p then (if ya_ty2 σ d p k r then (if ya_ty3 σ d p then some (.inl (some (.int (σ 1 0))), ya_define σ (σ 1 0).toNatClampNeg d p k r) else some (.inr 3, σ)) else some (.inr 2, σ)) else some (.inr 1, σ) := by
  have W := yn_Wo I
  have hnT := yg_nT I
  refine ee_meth ?_ rfl
  unfold sm_X5_type ya_ty1 ya_ty2 ya_ty3
  rw [← yb_ty]
  refine es_Q (es_need (ee_aI (ee_iC (ee_cA (ee_cb (ee_M (ee_aI (ee_L rfl) (ee_aI ee_K ee_aN)) (ee_cs (yt_X5_isIn σ d 3) rfl))) (fun _ => ee_cO (ee_cB (ee_L rfl) ee_K) (fun _ => ee_cb (ee_M (ee_aR (ee_rF (ee_R rfl) rfl) (ee_aI (ee_L rfl) ee_aN)) (ee_cv (yt_X2_isType σ p) rfl)))))) ee_aN) (ee_cs (yt_X5_needIndex σ _) rfl) (fun _ => ?_))
  refine es_Q (es_need (ee_aI (ee_iC (ee_cO (ee_cB (ee_L rfl) ee_K) (fun _ => ee_cB (ee_M (ee_aR (ee_rF (ee_R rfl) rfl) (ee_aI (ee_L rfl) ee_aN)) (ee_cv (yt_X2_databaseOf W p) rfl)) (ee_L rfl)))) ee_aN) (ee_cs (yt_X5_needRange σ _) rfl) (fun _ => ?_))
  refine es_Q (es_need (ee_aI (ee_iC (ee_cA (ee_cb (ee_M (ee_aI (ee_L rfl) (ee_aI ee_K ee_aN)) (ee_cs (yt_X5_isIn σ k 3) rfl))) (fun _ => ee_cb (ee_M (ee_aI (ee_L rfl) (ee_aI ee_K ee_aN)) (ee_cs (yt_X5_isIn σ r 3) rfl))))) ee_aN) (ee_cs (yt_X5_needRange σ _) rfl) (fun _ => ?_))
  refine es_Q (es_need (ee_aI (ee_iC (ee_cO (ee_cB (ee_L rfl) ee_K) (fun _ => ee_cB (ee_L rfl) ee_K))) ee_aN) (ee_cs (yt_X5_needRange σ _) rfl) (fun _ => ?_))
  refine es_Q (es_need (ee_aI (ee_iC (ee_cB (ee_M (ee_aR (ee_rF (ee_R rfl) rfl) (ee_aI (ee_L rfl) ee_aN)) (ee_cv (yt_X3_countOf σ d) rfl)) ee_K)) ee_aN) (ee_cs (yt_X5_needState σ _) rfl) (fun _ => ?_))
  refine es_Q (es_need (ee_aI (ee_iC (ee_cO (ee_cB (ee_L rfl) ee_K) (fun _ => ee_cN (ee_cb (ee_M (ee_aR (ee_rF (ee_R rfl) rfl) (ee_aI (ee_L rfl) ee_aN)) (ee_cv (yt_X2_hasRootType W d) rfl)))))) ee_aN) (ee_cs (yt_X5_needState σ _) rfl) (fun _ => ?_))
  refine es_Q (es_need (x := decide (ya_X2_levelBelow σ p ≤ 4) && decide (σ 1 0 < 12)) (ee_aI (ee_iC (ee_cA (ee_cB (ee_M (ee_aR (ee_rF (ee_R rfl) rfl) (ee_aI (ee_L rfl) ee_aN)) (ee_cv (yt_X2_levelBelow W p) rfl)) ee_K) (fun _ => ee_cB (ee_M (ee_aR (ee_rF (ee_R rfl) rfl) ee_aN) (ee_cv (yt_X2_size σ) rfl)) ee_K))) ee_aN) (ee_cs (yt_X5_needState σ _) rfl) (fun h => ?_))
  rw [Bool.and_eq_true, yl_lt, yl_c12] at h
  have hd := yt_X2_define W d p k r hnT.2.2 (by omega)
  rw [← hnT.2.2] at hd
  exact es_eI (ee_M (ee_aR (ee_rF (ee_R rfl) rfl) (ee_aI (ee_L rfl) (ee_aI (ee_L rfl) (ee_aI (ee_L rfl) (ee_aI (ee_L rfl) ee_aN))))) (ee_cv hd rfl))
theorem yg_tym {p : Int32} (h : p = -1) : tV σ p = 0 := by
  rw [h]
  show ya_tg σ 4 0 (-1) = 0
  unfold ya_tg
  rw [ya_isT_m]
  rfl
end YW8
