/-! the law: every turn keeps what holds -/
section YLaw
theorem law_ofT {R : Nat → sy_Mem → Prop} (h0 : R 0 sy_s0) {bs L : Nat} {xs : Nat → Int32} (hL : L ≤ 2560)
    (step : ∀ (t : Nat) (σ : sy_Mem), 5 * t + 5 ≤ L → R t σ → ∃ τ, R (t + 1) τ ∧ ∀ k, sm_L_sw bs L xs (xs (5 * t) &&& 31) (sy_env5 bs t) k σ = k (sy_env5 bs t) τ) :
    ∃ τ, sy_lawM bs L xs sy_s0 = some (.inl (some (.int 1)), τ) := by
  have hc : ∀ (t : Nat) (σ : sy_Mem), t ≤ L / 5 → sm_L_c bs L (sy_env5 bs t) σ = some (.inl (decide (nI (5 * t) ≤ nI L - 5)), σ) := fun t σ ht => by
    have h1 : sy_sA1 (.retAddr bs) bs = true := by simp [sy_sA1]
    unfold sm_L_c sy_cle sy_cB sy_iSub sy_iB sy_iSn sy_iL sy_iK sy_env5
    simp [sy_bnd, sy_ret, h1, nI]
  have hrun := sy_wh_run (c := sm_L_c bs L) (s := sm_L_b bs L xs) (I := fun t env σ => env = sy_env5 bs t ∧ R t σ) (N := L / 5)
    (fun t env σ ht hI => by
      obtain ⟨rfl, hR⟩ := hI
      obtain ⟨τ, hτ, hs⟩ := step t σ (by omega) hR
      refine ⟨?_, sy_env5 bs (t + 1), τ, ⟨rfl, hτ⟩, fun k => ?_⟩
      · rw [hc t σ (by omega), decide_eq_true ((nI_sub5 (by omega) (by omega)).mpr (by omega))]
      · have h1 : sy_sA1 (.retAddr bs) bs = true := by simp [sy_sA1]
        have h2 : sy_inb (nI (5 * t)) L = true := by
          unfold sy_inb
          rw [decide_eq_true (nI_pos' (by omega)), nI_clamp (by omega), decide_eq_true (by omega)]
          rfl
        have h3 : sy_iAnd (sy_iS bs L xs (sy_iL 4)) (sy_iK 31) (sy_env5 bs t) σ = some (.inl (xs (5 * t) &&& 31), σ) := by
          unfold sy_iAnd sy_iB sy_iS sy_iL sy_iK sy_env5
          simp [sy_bnd, sy_ret, h1, h2, nI_clamp (show 5 * t < 2 ^ 31 by omega)]
        show sy_bnd (sy_iAnd (sy_iS bs L xs (sy_iL 4)) (sy_iK 31) (sy_env5 bs t)) (fun x => sm_L_sw bs L xs x (sy_env5 bs t) (fun env' => sy_sIn 4 5 env' k)) σ = _
        unfold sy_bnd
        rw [h3]
        show sm_L_sw bs L xs (xs (5 * t) &&& 31) (sy_env5 bs t) (fun env' => sy_sIn 4 5 env' k) σ = _
        rw [hs]
        show k (sy_set (sy_env5 bs t) 4 (.int (nI (5 * t) + 5))) τ = _
        rw [show nI (5 * t) + 5 = nI (5 * (t + 1)) from nI_add (5 * t) 5]
        rfl)
    (fun env σ hI => by
      obtain ⟨rfl, hR⟩ := hI
      rw [hc _ σ (Nat.le_refl _), decide_eq_false (fun h => absurd ((nI_sub5 (by omega) (by omega)).mp h) (by omega))])
    (fun env => sy_eZ (sy_iK 1) env (fun _ => sy_fail)) (L / 5) 0 600 (sy_env5 bs 0) sy_s0 (by omega) (by omega) ⟨rfl, h0⟩
  obtain ⟨env', τ, ⟨rfl, hR⟩, hw⟩ := hrun
  refine ⟨τ, ?_⟩
  show sy_wh (sm_L_c bs L) (sm_L_b bs L xs) 600 (sy_env5 bs 0) (fun env => sy_eZ (sy_iK 1) env (fun _ => sy_fail)) sy_s0 = _
  rw [hw]
  rfl
theorem yw_R_to {m n : Nat} {σ : sy_Mem} (H : yw_R m σ) (h : m ≤ n) : yw_R n σ := ⟨yn_I_to H.1 h, H.2⟩
theorem law_step {bs L : Nat} {xs : Nat → Int32} (hL : L ≤ 2560) (t : Nat) (σ : sy_Mem) (ht : 5 * t + 5 ≤ L) (H : yw_R (8 * t) σ) : ∃ τ, yw_R (8 * (t + 1)) τ ∧ ∀ k, sm_L_sw bs L xs (xs (5 * t) &&& 31) (sy_env5 bs t) k σ = k (sy_env5 bs t) τ := by
  generalize xs (5 * t) &&& 31 = x
  by_cases h0 : x = 0
  · obtain ⟨r, σ1, y, τ2, q5, qE, q6, qa, hR⟩ := yw_ok_type H (xs (5 * t + 1)) (xs (5 * t + 2)) (xs (5 * t + 3)) (xs (5 * t + 4))
    refine ⟨τ2, yw_R_to hR (by omega), fun k => ?_⟩
    unfold sm_L_sw
    rw [if_pos h0]
    exact case_0 ht hL q5 qE q6 qa k
  by_cases h1 : x = 1
  · obtain ⟨r, σ1, τ2, q5, qE, q6, qa, hR⟩ := yw_ok_tie H (xs (5 * t + 1)) (xs (5 * t + 2)) (xs (5 * t + 3)) (xs (5 * t + 4))
    refine ⟨τ2, yw_R_to hR (by omega), fun k => ?_⟩
    unfold sm_L_sw
    rw [if_neg h0, if_pos h1]
    exact case_1 ht hL q5 qE q6 qa k
  by_cases h2 : x = 2
  · obtain ⟨r, σ1, τ2, q5, qE, q6, qa, hR⟩ := yw_ok_open H (xs (5 * t + 1)) (xs (5 * t + 2)) (xs (5 * t + 3))
    refine ⟨τ2, yw_R_to hR (by omega), fun k => ?_⟩
    unfold sm_L_sw
    rw [if_neg h0, if_neg h1, if_pos h2]
    exact case_2 ht hL q5 qE q6 qa k
  by_cases h3 : x = 3
  · obtain ⟨r, σ1, y, τ2, q5, qE, q6, qa, hR⟩ := yw_ok_argument H (xs (5 * t + 1)) (xs (5 * t + 2))
    refine ⟨τ2, yw_R_to hR (by omega), fun k => ?_⟩
    unfold sm_L_sw
    rw [if_neg h0, if_neg h1, if_neg h2, if_pos h3]
    exact case_3 ht hL q5 qE q6 qa k
  by_cases h4 : x = 4
  · obtain ⟨r, σ1, y, τ2, q5, qE, q6, qa, hR⟩ := yw_ok_condition H (!decide (xs (5 * t + 1) = 0)) (xs (5 * t + 2)) (xs (5 * t + 3)) (xs (5 * t + 4))
    refine ⟨τ2, yw_R_to hR (by omega), fun k => ?_⟩
    unfold sm_L_sw
    rw [if_neg h0, if_neg h1, if_neg h2, if_neg h3, if_pos h4]
    exact case_4 ht hL q5 qE q6 qa k
  by_cases h5 : x = 5
  · obtain ⟨e, hR⟩ := yw_clear H
    refine ⟨_, yw_R_to hR (by omega), fun k => ?_⟩
    unfold sm_L_sw
    rw [if_neg h0, if_neg h1, if_neg h2, if_neg h3, if_neg h4, if_pos h5]
    exact case_5 e k
  by_cases h6 : x = 6
  · obtain ⟨r, σ1, y, τ2, q5, qE, q6, qa, hR⟩ := yw_ok_put H (xs (5 * t + 1)) (xs (5 * t + 2)) (xs (5 * t + 3))
    refine ⟨τ2, yw_R_to hR (by omega), fun k => ?_⟩
    unfold sm_L_sw
    rw [if_neg h0, if_neg h1, if_neg h2, if_neg h3, if_neg h4, if_neg h5, if_pos h6]
    exact case_6 ht hL q5 qE q6 qa k
  by_cases h7 : x = 7
  · obtain ⟨r, σ1, y, τ2, q5, qE, q6, qa, hR⟩ := yw_ok_area H (xs (5 * t + 1)) (xs (5 * t + 2))
    refine ⟨τ2, yw_R_to hR (by omega), fun k => ?_⟩
    unfold sm_L_sw
    rw [if_neg h0, if_neg h1, if_neg h2, if_neg h3, if_neg h4, if_neg h5, if_neg h6, if_pos h7]
    exact case_7 ht hL q5 qE q6 qa k
  by_cases h8 : x = 8
  · obtain ⟨r, σ1, y, τ2, q5, qE, q6, qa, hR⟩ := yw_ok_get H (xs (5 * t + 1)) (xs (5 * t + 2)) (!decide (xs (5 * t + 3) = 0))
    refine ⟨τ2, yw_R_to hR (by omega), fun k => ?_⟩
    unfold sm_L_sw
    rw [if_neg h0, if_neg h1, if_neg h2, if_neg h3, if_neg h4, if_neg h5, if_neg h6, if_neg h7, if_pos h8]
    exact case_8 ht hL q5 qE q6 qa k
  by_cases h9 : x = 9
  · obtain ⟨r, σ1, y, τ2, q5, qE, q6, qa, hR⟩ := yw_insert H (by omega) (xs (5 * t + 1))
    refine ⟨τ2, yw_R_to hR (by omega), fun k => ?_⟩
    unfold sm_L_sw
    rw [if_neg h0, if_neg h1, if_neg h2, if_neg h3, if_neg h4, if_neg h5, if_neg h6, if_neg h7, if_neg h8, if_pos h9]
    exact case_9 ht hL q5 qE q6 qa k
  by_cases h10 : x = 10
  · obtain ⟨r, σ1, y, τ2, q5, qE, q6, qa, hR⟩ := yw_replace H (by omega) (xs (5 * t + 1))
    refine ⟨τ2, yw_R_to hR (by omega), fun k => ?_⟩
    unfold sm_L_sw
    rw [if_neg h0, if_neg h1, if_neg h2, if_neg h3, if_neg h4, if_neg h5, if_neg h6, if_neg h7, if_neg h8, if_neg h9, if_pos h10]
    exact case_10 ht hL q5 qE q6 qa k
  by_cases h11 : x = 11
  · obtain ⟨r, σ1, y, τ2, q5, qE, q6, qa, hR⟩ := yw_delete H (xs (5 * t + 1))
    refine ⟨τ2, yw_R_to hR (by omega), fun k => ?_⟩
    unfold sm_L_sw
    rw [if_neg h0, if_neg h1, if_neg h2, if_neg h3, if_neg h4, if_neg h5, if_neg h6, if_neg h7, if_neg h8, if_neg h9, if_neg h10, if_pos h11]
    exact case_11 ht hL q5 qE q6 qa k
  by_cases h12 : x = 12
  · obtain ⟨e, hR⟩ := yw_types H
    refine ⟨_, yw_R_to hR (by omega), fun k => ?_⟩
    unfold sm_L_sw
    rw [if_neg h0, if_neg h1, if_neg h2, if_neg h3, if_neg h4, if_neg h5, if_neg h6, if_neg h7, if_neg h8, if_neg h9, if_neg h10, if_neg h11, if_pos h12]
    exact case_12 e k
  by_cases h13 : x = 13
  · obtain ⟨r, σ1, y, τ2, q5, qE, q6, qa, hR⟩ := yw_ok_count H (xs (5 * t + 1))
    refine ⟨τ2, yw_R_to hR (by omega), fun k => ?_⟩
    unfold sm_L_sw
    rw [if_neg h0, if_neg h1, if_neg h2, if_neg h3, if_neg h4, if_neg h5, if_neg h6, if_neg h7, if_neg h8, if_neg h9, if_neg h10, if_neg h11, if_neg h12, if_pos h13]
    exact case_13 ht hL q5 qE q6 qa k
  by_cases h14 : x = 14
  · obtain ⟨r, σ1, y, τ2, q5, qE, q6, qa, hR⟩ := yw_ok_rowAt H (xs (5 * t + 1)) (xs (5 * t + 2))
    refine ⟨τ2, yw_R_to hR (by omega), fun k => ?_⟩
    unfold sm_L_sw
    rw [if_neg h0, if_neg h1, if_neg h2, if_neg h3, if_neg h4, if_neg h5, if_neg h6, if_neg h7, if_neg h8, if_neg h9, if_neg h10, if_neg h11, if_neg h12, if_neg h13, if_pos h14]
    exact case_14 ht hL q5 qE q6 qa k
  by_cases h15 : x = 15
  · obtain ⟨r, σ1, y, τ2, q5, qE, q6, qa, hR⟩ := yw_ok_rowAnew H (xs (5 * t + 1)) (xs (5 * t + 2))
    refine ⟨τ2, yw_R_to hR (by omega), fun k => ?_⟩
    unfold sm_L_sw
    rw [if_neg h0, if_neg h1, if_neg h2, if_neg h3, if_neg h4, if_neg h5, if_neg h6, if_neg h7, if_neg h8, if_neg h9, if_neg h10, if_neg h11, if_neg h12, if_neg h13, if_neg h14, if_pos h15]
    exact case_15 ht hL q5 qE q6 qa k
  by_cases h16 : x = 16
  · obtain ⟨r, σ1, y, τ2, q5, qE, q6, qa, hR⟩ := yw_ok_fieldAt H (xs (5 * t + 1)) (xs (5 * t + 2)) (xs (5 * t + 3))
    refine ⟨τ2, yw_R_to hR (by omega), fun k => ?_⟩
    unfold sm_L_sw
    rw [if_neg h0, if_neg h1, if_neg h2, if_neg h3, if_neg h4, if_neg h5, if_neg h6, if_neg h7, if_neg h8, if_neg h9, if_neg h10, if_neg h11, if_neg h12, if_neg h13, if_neg h14, if_neg h15, if_pos h16]
    exact case_16 ht hL q5 qE q6 qa k
  by_cases h17 : x = 17
  · obtain ⟨r, σ1, y, τ2, q5, qE, q6, qa, hR⟩ := yw_ok_at H (xs (5 * t + 1))
    refine ⟨τ2, yw_R_to hR (by omega), fun k => ?_⟩
    unfold sm_L_sw
    rw [if_neg h0, if_neg h1, if_neg h2, if_neg h3, if_neg h4, if_neg h5, if_neg h6, if_neg h7, if_neg h8, if_neg h9, if_neg h10, if_neg h11, if_neg h12, if_neg h13, if_neg h14, if_neg h15, if_neg h16, if_pos h17]
    exact case_17 ht hL q5 qE q6 qa k
  by_cases h18 : x = 18
  · obtain ⟨r, σ1, y, τ2, q5, qE, q6, qa, hR⟩ := yw_ok_ahead H (xs (5 * t + 1))
    refine ⟨τ2, yw_R_to hR (by omega), fun k => ?_⟩
    unfold sm_L_sw
    rw [if_neg h0, if_neg h1, if_neg h2, if_neg h3, if_neg h4, if_neg h5, if_neg h6, if_neg h7, if_neg h8, if_neg h9, if_neg h10, if_neg h11, if_neg h12, if_neg h13, if_neg h14, if_neg h15, if_neg h16, if_neg h17, if_pos h18]
    exact case_18 ht hL q5 qE q6 qa k
  by_cases h19 : x = 19
  · obtain ⟨r, σ1, y, τ2, q5, qE, q6, qa, hR⟩ := yw_ok_parent H (xs (5 * t + 1))
    refine ⟨τ2, yw_R_to hR (by omega), fun k => ?_⟩
    unfold sm_L_sw
    rw [if_neg h0, if_neg h1, if_neg h2, if_neg h3, if_neg h4, if_neg h5, if_neg h6, if_neg h7, if_neg h8, if_neg h9, if_neg h10, if_neg h11, if_neg h12, if_neg h13, if_neg h14, if_neg h15, if_neg h16, if_neg h17, if_neg h18, if_pos h19]
    exact case_19 ht hL q5 qE q6 qa k
  by_cases h20 : x = 20
  · obtain ⟨r, σ1, y, τ2, q5, qE, q6, qa, hR⟩ := yw_ok_holds H (xs (5 * t + 1))
    refine ⟨τ2, yw_R_to hR (by omega), fun k => ?_⟩
    unfold sm_L_sw
    rw [if_neg h0, if_neg h1, if_neg h2, if_neg h3, if_neg h4, if_neg h5, if_neg h6, if_neg h7, if_neg h8, if_neg h9, if_neg h10, if_neg h11, if_neg h12, if_neg h13, if_neg h14, if_neg h15, if_neg h16, if_neg h17, if_neg h18, if_neg h19, if_pos h20]
    exact case_20 ht hL q5 qE q6 qa k
  by_cases h21 : x = 21
  · obtain ⟨r, σ1, y, τ2, q5, qE, q6, qa, hR⟩ := yw_ok_keys H (xs (5 * t + 1))
    refine ⟨τ2, yw_R_to hR (by omega), fun k => ?_⟩
    unfold sm_L_sw
    rw [if_neg h0, if_neg h1, if_neg h2, if_neg h3, if_neg h4, if_neg h5, if_neg h6, if_neg h7, if_neg h8, if_neg h9, if_neg h10, if_neg h11, if_neg h12, if_neg h13, if_neg h14, if_neg h15, if_neg h16, if_neg h17, if_neg h18, if_neg h19, if_neg h20, if_pos h21]
    exact case_21 ht hL q5 qE q6 qa k
  by_cases h22 : x = 22
  · obtain ⟨r, σ1, y, τ2, q5, qE, q6, qa, hR⟩ := yw_ok_second H (xs (5 * t + 1))
    refine ⟨τ2, yw_R_to hR (by omega), fun k => ?_⟩
    unfold sm_L_sw
    rw [if_neg h0, if_neg h1, if_neg h2, if_neg h3, if_neg h4, if_neg h5, if_neg h6, if_neg h7, if_neg h8, if_neg h9, if_neg h10, if_neg h11, if_neg h12, if_neg h13, if_neg h14, if_neg h15, if_neg h16, if_neg h17, if_neg h18, if_neg h19, if_neg h20, if_neg h21, if_pos h22]
    exact case_22 ht hL q5 qE q6 qa k
  by_cases h23 : x = 23
  · obtain ⟨r, σ1, y, τ2, q5, qE, q6, qa, hR⟩ := yw_ok_tied H (xs (5 * t + 1))
    refine ⟨τ2, yw_R_to hR (by omega), fun k => ?_⟩
    unfold sm_L_sw
    rw [if_neg h0, if_neg h1, if_neg h2, if_neg h3, if_neg h4, if_neg h5, if_neg h6, if_neg h7, if_neg h8, if_neg h9, if_neg h10, if_neg h11, if_neg h12, if_neg h13, if_neg h14, if_neg h15, if_neg h16, if_neg h17, if_neg h18, if_neg h19, if_neg h20, if_neg h21, if_neg h22, if_pos h23]
    exact case_23 ht hL q5 qE q6 qa k
  refine ⟨σ, yw_R_to H (by omega), fun k => ?_⟩
  unfold sm_L_sw
  rw [if_neg h0, if_neg h1, if_neg h2, if_neg h3, if_neg h4, if_neg h5, if_neg h6, if_neg h7, if_neg h8, if_neg h9, if_neg h10, if_neg h11, if_neg h12, if_neg h13, if_neg h14, if_neg h15, if_neg h16, if_neg h17, if_neg h18, if_neg h19, if_neg h20, if_neg h21, if_neg h22, if_neg h23]
  rfl
end YLaw
