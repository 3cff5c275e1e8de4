section SYV1
/-- the law comes to 1 if every turn keeps R and leaves the locals as they were -/
theorem law_of {R : sy_Mem → Prop} (h0 : R sy_s0) {bs L : Nat} {xs : Nat → Int32} (hL : L ≤ 2560)
    (step : ∀ (t : Nat) (σ : sy_Mem), 5 * t + 5 ≤ L → R σ → ∃ τ, R τ ∧ ∀ k, sm_L_sw bs L xs (xs (5 * t) &&& 31) (sy_env5 bs t) k σ = k (sy_env5 bs t) τ) :
    ∃ τ, sy_lawM bs L xs sy_s0 = some (.inl (some (.int 1)), τ) := by
  have hc : ∀ (t : Nat) (σ : sy_Mem), t ≤ L / 5 → sm_L_c bs L (sy_env5 bs t) σ = some (.inl (decide (nI (5 * t) ≤ nI L - 5)), σ) := fun t σ ht => by
    have h1 : sy_sA1 (.retAddr bs) bs = true := by simp [sy_sA1]
    unfold sm_L_c sy_cle sy_cB sy_iSub sy_iB sy_iSn sy_iL sy_iK sy_env5
    simp [sy_bnd, sy_ret, h1, nI]
  have hrun := sy_wh_run (c := sm_L_c bs L) (s := sm_L_b bs L xs) (I := fun t env σ => env = sy_env5 bs t ∧ R σ) (N := L / 5)
    (fun t env σ ht hI => by
      obtain ⟨rfl, hR⟩ := hI
      obtain ⟨τ, hτ, hs⟩ := step t σ (by omega) hR
      refine ⟨?_, sy_env5 bs (t + 1), τ, ⟨rfl, hτ⟩, fun k => ?_⟩
      · rw [hc t σ (by omega), decide_eq_true ((nI_sub5 (by omega) (by omega)).mpr (by omega))]
      · have h1 : sy_sA1 (.retAddr bs) bs = true := by simp [sy_sA1]
        have h2 : sy_inb (nI (5 * t)) L = true := by
          unfold sy_inb
          rw [decide_eq_true (nI_pos' (by omega)), nI_clamp (by omega), decide_eq_true (by omega)]
          rfl
        have h3 : sy_iAnd (sy_iS bs L xs (sy_iL 4)) (sy_iK 31) (sy_env5 bs t) σ = some (.inl (xs (5 * t) &&& 31), σ) := by
          unfold sy_iAnd sy_iB sy_iS sy_iL sy_iK sy_env5
          simp [sy_bnd, sy_ret, h1, h2, nI_clamp (show 5 * t < 2 ^ 31 by omega)]
        show sy_bnd (sy_iAnd (sy_iS bs L xs (sy_iL 4)) (sy_iK 31) (sy_env5 bs t)) (fun x => sm_L_sw bs L xs x (sy_env5 bs t) (fun env' => sy_sIn 4 5 env' k)) σ = _
        unfold sy_bnd
        rw [h3]
        show sm_L_sw bs L xs (xs (5 * t) &&& 31) (sy_env5 bs t) (fun env' => sy_sIn 4 5 env' k) σ = _
        rw [hs]
        show k (sy_set (sy_env5 bs t) 4 (.int (nI (5 * t) + 5))) τ = _
        rw [show nI (5 * t) + 5 = nI (5 * (t + 1)) from nI_add (5 * t) 5]
        rfl)
    (fun env σ hI => by
      obtain ⟨rfl, hR⟩ := hI
      rw [hc _ σ (Nat.le_refl _), decide_eq_false (fun h => absurd ((nI_sub5 (by omega) (by omega)).mp h) (by omega))])
    (fun env => sy_eZ (sy_iK 1) env (fun _ => sy_fail)) (L / 5) 0 600 (sy_env5 bs 0) sy_s0 (by omega) (by omega) ⟨rfl, h0⟩
  obtain ⟨env', τ, ⟨rfl, hR⟩, hw⟩ := hrun
  refine ⟨τ, ?_⟩
  show sy_wh (sm_L_c bs L) (sm_L_b bs L xs) 600 (sy_env5 bs 0) (fun env => sy_eZ (sy_iK 1) env (fun _ => sy_fail)) sy_s0 = _
  rw [hw]
  rfl
end SYV1
