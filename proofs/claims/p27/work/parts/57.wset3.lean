section YW6
variable {σ τ A : sy_Mem} {t : Nat}
-- condition
def ya_cond (σ : sy_Mem) (l q : Nat) (o f c x : Int32) : sy_Mem := sy_up (sy_up (sy_up (sy_up (sy_up σ 23 (3 * l + q) o) 24 (3 * l + q) f) 25 (3 * l + q) c) 26 (3 * l + q) x) 22 l (nI (q + 1))
/-- whether the last argument can have one more -/
def ya_more (σ : sy_Mem) : Bool := decide (0 ≤ σ 19 0 - 1) && decide (ya_ag σ 22 0 (σ 19 0 - 1) < 3)
theorem yg_more (I : yn_I t σ) (h : ya_more σ = true) : ∃ l q : Nat, l < 4 ∧ q < 3 ∧ σ 19 0 = nI (l + 1) ∧ σ 19 0 - 1 = nI l ∧ σ 22 l = nI q ∧ ya_ag σ 22 0 (nI l) = nI q := by
  have h19 := yg_n19 I
  unfold ya_more at h
  rw [Bool.and_eq_true, yl_ge, yl_lt, yl_c0, yl_c3] at h
  rw [yl_sub (x := σ 19 0) (y := 1) (by omega) (by omega) (by decide) (by decide), yl_c1] at h
  obtain ⟨l, hl⟩ : ∃ l, (σ 19 0).toNatClampNeg = l + 1 := ⟨(σ 19 0).toNatClampNeg - 1, by omega⟩
  have e1 : σ 19 0 = nI (l + 1) := by rw [yg_n19e I, hl]
  have e2 : σ 19 0 - 1 = nI l := by rw [e1, nI_pred]
  have e3 : ya_ag σ 22 0 (nI l) = σ 22 l := by rw [ya_ag_in (yl_An (by omega) (by omega)), nI_clamp (by omega)]
  have hc := (I.2.2.2.2.2.2.2.1 l (by omega)).2.2.1
  rw [e2, e3] at h
  have e4 : σ 22 l = nI (σ 22 l).toNatClampNeg := yi_nat (yi_pos.mpr hc.1)
  exact ⟨l, (σ 22 l).toNatClampNeg, by omega, by rw [yi_clampInt]; omega, e1, e2, e4, e3.trans e4⟩
theorem yt_X0_addCondition (σ : sy_Mem) (o : Bool) (f c x : Int32) {l q : Nat} (hl : l < 4) (hq : q < 3) (h19 : σ 19 0 = nI (l + 1)) (h22 : σ 22 l = nI q) : sf_X0_addCondition [.ref 19, .int (ya_b o), .int f, .int c, .int x] σ = some (.inl (some (.int (nI (q + 1)))), ya_cond σ l q (ya_b o) f c x) := by
  refine ee_meth ?_ rfl
  unfold sm_X0_addCondition ya_cond
  have e1 := yl_ix (x := nI l) (y := nI q) (c := 3) (n := 4) (m := 3) yl_c3 (by rw [nI_toInt (by omega)]; omega) (by rw [nI_toInt (by omega)]; omega) (by omega) (by rw [nI_toInt (by omega)]; omega) (by rw [nI_toInt (by omega)]; omega)
  have e2 := e1.2.1
  rw [nI_clamp (by omega), nI_clamp (by omega)] at e2
  have hi4 := yi_inbN (n := 4) hl (show l < 2 ^ 31 by omega)
  have hA : ya_isA σ (nI l) = true := by rw [yl_isA, h19, nI_toInt (by omega), nI_toInt (by omega)]; omega
  have hlast : sy_iSub (sy_iF 0 0 (sy_rL 0)) (sy_iK 1) [.ref 19, .int (ya_b o), .int f, .int c, .int x] σ = some (.inl (nI l), σ) := (ee_B (ee_F (ee_R rfl) rfl) ee_K).trans (by rw [h19, nI_pred])
  refine es_Q (es_SI hlast ?_)
  have hcn : ∀ {ρ : sy_Mem} {env : List Value}, ρ 22 l = nI q → env[0]? = some (.ref 19) → env[5]? = some (.int (nI l)) → sy_iA 0 (sy_rF 0 3 (sy_rL 0)) (sy_iL 5) env ρ = some (.inl (nI q), ρ) := fun {ρ env} h h0 h5 => by rw [ee_An (kd := 0) (ee_rF (ee_R h0) rfl) (ee_L h5) (show l < sy_len 0 22 from hl) (by decide), h]
  have hc : sy_cO (sy_cN (sy_cI (sy_iM (sy_cv 0 1 sf_X0_isListed) (sy_aR (sy_rL 0) (sy_aI (sy_iL 5) sy_aN))))) (sy_cge (sy_iA 0 (sy_rF 0 3 (sy_rL 0)) (sy_iL 5)) (sy_iK 3)) [.ref 19, .int (ya_b o), .int f, .int c, .int x, .int (nI l)] σ = some (.inl false, σ) := by
    refine (ee_cO (ee_cN (ee_cb (ee_M (ee_aR (ee_R rfl) (ee_aI (ee_L rfl) ee_aN)) (ee_cv (yt_X0_isListed σ (nI l)) rfl)))) (fun _ => ee_cB (hcn h22 rfl rfl) ee_K)).trans ?_
    rw [hA, show decide ((3 : Int32) ≤ nI q) = false by
      rw [decide_eq_false_iff_not, Int32.le_iff_toInt_le, nI_toInt (by omega), yl_c3]; omega]
    rfl
  refine es_Q (es_If hc (es_N ?_))
  refine es_Q (es_SI (ee_B (ee_B (ee_L rfl) ee_K) (hcn h22 rfl rfl)) ?_)
  refine es_Q (es_WZ (ee_rF (ee_R rfl) rfl) (ee_L rfl) (ee_L rfl) (ya_b01 o) e1.2.2 ?_)
  refine es_Q (es_W (ee_rF (ee_R rfl) rfl) (ee_L rfl) (ee_L rfl) e1.2.2 ?_)
  refine es_Q (es_W (ee_rF (ee_R rfl) rfl) (ee_L rfl) (ee_L rfl) e1.2.2 ?_)
  refine es_Q (es_W (ee_rF (ee_R rfl) rfl) (ee_L rfl) (ee_L rfl) e1.2.2 ?_)
  rw [e2]
  refine es_Q (es_A (ee_rF (ee_R rfl) rfl) (ee_L rfl) ee_K hi4 ?_)
  rw [nI_clamp (by omega)]
  have h22' : sy_up (sy_up (sy_up (sy_up σ 23 (3 * l + q) (ya_b o)) 24 (3 * l + q) f) 25 (3 * l + q) c) 26 (3 * l + q) x 22 l = nI q := by
    rw [yu_ne (by decide), yu_ne (by decide), yu_ne (by decide), yu_ne (by decide), h22]
  refine (es_eI (k := fun _ => sy_fail) (ee_An (kd := 0) (ee_rF (ee_R rfl) rfl) (ee_L rfl) (show l < sy_len 0 22 from hl) (by decide))).trans ?_
  rw [yu_at]
  show some (Sum.inl (some (Value.int (sy_up (sy_up (sy_up (sy_up σ 23 (3 * l + q) (ya_b o)) 24 (3 * l + q) f) 25 (3 * l + q) c) 26 (3 * l + q) x 22 l + 1))), sy_up _ 22 l (sy_up (sy_up (sy_up (sy_up σ 23 (3 * l + q) (ya_b o)) 24 (3 * l + q) f) 25 (3 * l + q) c) 26 (3 * l + q) x 22 l + 1)) = _
  rw [h22', nI_1]
/-- what the last argument then has -/
def ya_condR (σ : sy_Mem) (o f c x : Int32) : Int32 × sy_Mem := (ya_ag σ 22 0 (σ 19 0 - 1) + 1, ya_cond σ (σ 19 0 - 1).toNatClampNeg (ya_ag σ 22 0 (σ 19 0 - 1)).toNatClampNeg o f c x)
theorem yt_X5_condition (I : yn_I t σ) (o : Bool) (f c x : Int32) : sf_X5_condition [.ref 0, .int (ya_b o), .int f, .int c, .int x] σ = if (decide (0 ≤ f) && decide (f < 3)) then (if ((decide (0 ≤ c) && decide (c < 6)) && (decide (0 ≤ x) && decide (x < 1000))) then (if ya_more σ then some (.inl (some (.int (ya_condR σ (ya_b o) f c x).1)), (ya_condR σ (ya_b o) f c x).2) else some (.inr 3, σ)) else some (.inr 2, σ)) else some (.inr 1, σ) := by
  refine ee_meth ?_ rfl
  unfold sm_X5_condition
  refine es_Q (es_need (ee_aI (ee_M (ee_aI (ee_L rfl) (ee_aI ee_K ee_aN)) (ee_cs (yt_X5_isIn σ f 3) rfl)) ee_aN) (ee_cs (yt_X5_needIndex σ _) rfl) (fun _ => ?_))
  refine es_Q (es_need (ee_aI (ee_iC (ee_cA (ee_cb (ee_M (ee_aI (ee_L rfl) (ee_aI ee_K ee_aN)) (ee_cs (yt_X5_isIn σ c 6) rfl))) (fun _ => ee_cb (ee_M (ee_aI (ee_L rfl) (ee_aI ee_K ee_aN)) (ee_cs (yt_X5_isIn σ x 1000) rfl))))) ee_aN) (ee_cs (yt_X5_needRange σ _) rfl) (fun _ => ?_))
  refine es_Q (es_SI (ee_B (ee_M (ee_aR (ee_rF (ee_R rfl) rfl) ee_aN) (ee_cv (yt_X0_size σ) rfl)) ee_K) ?_)
  refine es_Q (es_need (x := ya_more σ) (ee_aI (ee_iC (ee_cA (ee_cB (ee_L rfl) ee_K) (fun _ => ee_cB (ee_M (ee_aR (ee_rF (ee_R rfl) rfl) (ee_aI (ee_L rfl) ee_aN)) (ee_cv (yt_X0_conditionsOf σ _) rfl)) ee_K))) ee_aN) (ee_cs (yt_X5_needState σ _) rfl) (fun h => ?_))
  obtain ⟨l, q, hl, hq, h19, hm, h22, hag⟩ := yg_more I h
  have e : ya_condR σ (ya_b o) f c x = (nI (q + 1), ya_cond σ l q (ya_b o) f c x) := by
    unfold ya_condR
    rw [hm, hag, nI_clamp (by omega), nI_clamp (by omega), nI_1]
  rw [e]
  exact es_eI (ee_M (ee_aR (ee_rF (ee_R rfl) rfl) (ee_aI (ee_L rfl) (ee_aI (ee_L rfl) (ee_aI (ee_L rfl) (ee_aI (ee_L rfl) ee_aN))))) (ee_cv (yt_X0_addCondition σ o f c x hl hq h19 h22) rfl))
end YW6
