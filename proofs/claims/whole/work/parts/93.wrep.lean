/-! the turn of replace -/
section YWr
variable {σ τ : sy_Mem} {t : Nat}
theorem yw_lostM (M : yr_M σ τ) {v : Nat} (hv : v < 4) {i : Nat} (hi : (i : Int) < (σ (sy_vw v) 6).toInt) : (sy_up (sy_up τ 44 23 (σ (sy_vw v) 6)) 64 v 0) 65 (4 * v + i) = σ (sy_vw v + 1) i ∧ (sy_up (sy_up τ 44 23 (σ (sy_vw v) 6)) 64 v 0) 66 (4 * v + i) = σ (sy_vw v + 2) i := by
  rw [yu_ne (by decide), yu_ne (by decide), yu_ne (by decide), yu_ne (by decide)]
  exact (M.2.2.1 v hv).2.2.2.2.2.2 i hi
theorem yw_replace (H : yw_R t σ) (ht : t + 70 < 10000) (a1 : Int32) : ∃ r σ1 y τ2, sf_X5_replace [.ref 0, .int a1] σ = some (sy_rI r, σ1) ∧ (∀ E, r = .inr E → 1 ≤ E ∧ E ≤ 1) ∧ sf_X6_replace [.ref 44, .int a1] (sy_note r σ1) = some (.inl (some (.int y)), τ2) ∧ sy_alike r y τ2 ∧ yw_R (t + 8) τ2 := by
  have hgo : ∀ (τ : sy_Mem), (sy_aR (sy_rL 0) (sy_aI (sy_iM (sy_cs 1 sf_X6_isView) (sy_aI (sy_iL 1) sy_aN)) (sy_aI (sy_iK 1) (sy_aI (sy_iK 1) sy_aN)))) [.ref 44, .int a1] τ = some (.inl [.ref 44, .int (ya_b (decide (0 ≤ a1) && decide (a1 < 4))), .int (ya_b true), .int (ya_b true)], τ) := fun τ => by
    exact ee_aR (ee_R rfl) (ee_aI (ee_M (ee_aI (ee_L rfl) ee_aN) (ee_cs (ym_isView τ a1) rfl)) (ee_aI (x := ya_b true) ee_K (ee_aI (x := ya_b true) ee_K ee_aN)))
  by_cases h1 : (decide (0 ≤ a1) && decide (a1 < 4)) = true
  · have hv : a1.toNatClampNeg < 4 := by
      have := yl_isL.mp h1
      rw [yi_clampInt]
      omega
    have ea1 : a1 = nI a1.toNatClampNeg := yi_nat (yi_pos.mpr (yl_isL.mp h1).1)
    have hb := yv_lt hv
    have h23 : ∀ τ : sy_Mem, (sy_up (sy_up τ 44 23 (σ (sy_vw a1.toNatClampNeg) 6)) 64 a1.toNatClampNeg 0) 44 23 = σ (sy_vw a1.toNatClampNeg) 6 := fun τ => by rw [yu_ne (by decide), yu_at]
    obtain ⟨st, A', _, c1, _, _, _, c5, _, _⟩ := yw_repL H.1 H.2 hv ht (yr_loses H.2 H.1 hv (x := σ (sy_vw a1.toNatClampNeg) 6)) (h23 σ) (fun i hi => yw_lostM H.2 hv hi)
    have hc : sf_X5_replace [.ref 0, .int a1] σ = some (sy_rI (.inl st), sy_up (sy_up A' (sy_vw a1.toNatClampNeg) 6 0) 19 0 0) := by
      refine ee_meth ?_ rfl
      unfold sm_X5_replace
      refine es_Q ((es_SRx (ee_aR (ee_R rfl) (ee_aI (ee_L rfl) ee_aN)) (ee_cv (yt_X5_viewOf σ a1) rfl) (r := some (sy_rI (.inl st), sy_up (sy_up A' (sy_vw a1.toNatClampNeg) 6 0) 19 0 0)) (fun hx => ?_)).trans (by rw [if_pos h1]))
      refine es_Q (es_SI (ee_M (ee_aR (ee_R rfl) (ee_aR (ee_R rfl) ee_aN)) (ee_cv c1 rfl)) ?_)
      refine es_Q (es_C (ee_aR (ee_R rfl) ee_aN) (ee_cv (yt_X4_release A' hv) (yv_rc hv rfl)) ?_)
      exact es_Q (es_E (ee_M (ee_aR (ee_rF (ee_R rfl) rfl) ee_aN) (ee_cv (yt_X0_drop _) rfl)) (es_eI (ee_L rfl)))
    have hge : ∀ k, 44 ≤ k → k ≤ 76 → (sy_up (sy_up A' (sy_vw a1.toNatClampNeg) 6 0) 19 0 0) k = σ k := fun k h1 h2 => by
      rw [yu_ne (by omega), yu_ne (by omega), c5 k h1]
    have M0 := yw_note H.2 hge (.inl st)
    have M1 : yr_M σ (sy_up (sy_note (.inl st) (sy_up (sy_up A' (sy_vw a1.toNatClampNeg) 6 0) 19 0 0)) 44 36 0) := yr_M_44 M0 ⟨by decide, by decide⟩
    have M2 := yr_loses M1 H.1 hv (x := σ (sy_vw a1.toNatClampNeg) 6)
    obtain ⟨st2, A2, τ3, d1, d2, d3, d4, d5, d6, d7⟩ := yw_repL H.1 H.2 hv ht M2 (h23 _) (fun i hi => yw_lostM M1 hv hi)
    rw [c1] at d1
    obtain ⟨rfl, rfl⟩ : st = st2 ∧ A' = A2 := by
      injection d1 with d1
      injection d1 with e1 e2
      injection e1 with e1
      injection e1 with e1
      injection e1 with e1
      exact ⟨e1, e2⟩
    have hfr : ym_fw (sy_note (.inl st) (sy_up (sy_up A' (sy_vw a1.toNatClampNeg) 6 0) 19 0 0)) (sy_up τ3 44 24 0) := ym_fw_trans (ym_fw_trans (ym_fw_up ⟨by decide, by decide⟩) (ym_fw_trans (ym_fw_up ⟨by decide, by decide⟩) (ym_fw_up ⟨by decide, by decide⟩))) (ym_fw_trans d6 (ym_fw_up ⟨by decide, by decide⟩))
    have h36 : τ3 44 36 = 0 := by
      rw [d7, yu_ne (by decide), yu_an (by decide), yu_at]
    refine ⟨.inl st, _, _, sy_up τ3 44 24 0, hc, fun E e => (by cases e), ?_, yw_alike hfr ?_ (fun x hx => by cases hx; rfl), yw_next (yn_drop d3) (yr_drop d4 d3) hfr⟩
    · refine ee_meth ?_ rfl
      unfold sm_X6_replace
      refine es_Q ((es_goes (hgo _)).trans ?_)
      rw [h1, if_pos (show ((true && true) && true) = true from rfl)]
      rw [← ea1] at d2
      have hl := ym_loses M1 hv
      rw [← ea1] at hl
      exact es_Q (es_C (ee_aR (ee_R rfl) (ee_aI (ee_L rfl) ee_aN)) (ee_cv hl rfl) (es_Q (es_SI (ee_M (ee_aR (ee_R rfl) (ee_aI (ee_L rfl) ee_aN)) (ee_cv d2 rfl)) (es_Q (es_SI (ee_M (ee_aR (ee_R rfl) ee_aN) (ee_cv (ym_clears d4) rfl)) (es_eI (ee_L rfl)))))))
    · rw [yu_an (by decide), h36]
      rfl
  · obtain ⟨w1, w2⟩ := yw_throw H (E := 1)
    refine ⟨.inr 1, σ, 0, _, ?_, fun E e => (by cases e; decide), ?_, w1, ⟨yn_I_to w2.1 (by omega), w2.2⟩⟩
    · refine ee_meth ?_ rfl
      unfold sm_X5_replace
      refine es_Q ((es_SRx (ee_aR (ee_R rfl) (ee_aI (ee_L rfl) ee_aN)) (ee_cv (yt_X5_viewOf σ a1) rfl) (r := some (sy_rI (.inl 0), σ)) (fun hx => absurd hx h1)).trans ?_)
      rw [if_neg h1]
      rfl
    · refine ee_meth ?_ rfl
      unfold sm_X6_replace
      refine es_Q ((es_goes (hgo _)).trans ?_)
      rw [show (decide (0 ≤ a1) && decide (a1 < 4)) = false by simpa using h1]
      rfl
end YWr
