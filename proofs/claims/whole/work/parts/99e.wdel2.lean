section YWe
variable {σ τ : sy_Mem} {t : Nat}
theorem yw_delete (H : yw_R t σ) (a1 : Int32) : ∃ r σ1 y τ2, sf_X5_delete [.ref 0, .int a1] σ = some (sy_rI r, σ1) ∧ (∀ E, r = .inr E → 1 ≤ E ∧ E ≤ 1) ∧ sf_X6_delete [.ref 44, .int a1] (sy_note r σ1) = some (.inl (some (.int y)), τ2) ∧ sy_alike r y τ2 ∧ yw_R (t + 8) τ2 := by
  have hgo : ∀ (τ : sy_Mem), (sy_aR (sy_rL 0) (sy_aI (sy_iM (sy_cs 1 sf_X6_isView) (sy_aI (sy_iL 1) sy_aN)) (sy_aI (sy_iK 1) (sy_aI (sy_iK 1) sy_aN)))) [.ref 44, .int a1] τ = some (.inl [.ref 44, .int (ya_b (decide (0 ≤ a1) && decide (a1 < 4))), .int (ya_b true), .int (ya_b true)], τ) := fun τ => by
    exact ee_aR (ee_R rfl) (ee_aI (ee_M (ee_aI (ee_L rfl) ee_aN) (ee_cs (ym_isView τ a1) rfl)) (ee_aI (x := ya_b true) ee_K (ee_aI (x := ya_b true) ee_K ee_aN)))
  by_cases h1 : (decide (0 ≤ a1) && decide (a1 < 4)) = true
  · have hv : a1.toNatClampNeg < 4 := by
      have := yl_isL.mp h1
      rw [yi_clampInt]
      omega
    have ea1 : a1 = nI a1.toNatClampNeg := yi_nat (yi_pos.mpr (yl_isL.mp h1).1)
    have hb := yv_lt hv
    have W := yn_Wo H.1
    have hIr := yn_release H.1 hv
    obtain ⟨q1, q4, q6⟩ := yv_hold H.1 hv
    -- both, from any memory of the model
    have both : ∃ st A', sf_X5_delete [.ref 0, .int a1] σ = some (sy_rI (.inl st), sy_up A' 19 0 0) ∧ (∀ k, 44 ≤ k → A' k = σ k) ∧ ∀ τx, yr_M σ τx → ∃ τ3, sf_X6_deletes [.ref 44, .int (nI a1.toNatClampNeg)] (sy_up (sy_up τx 44 23 (σ (sy_vw a1.toNatClampNeg) 6)) 64 a1.toNatClampNeg 0) = some (.inl (some (.int st)), τ3) ∧ yn_I t A' ∧ yr_M A' τ3 ∧ ym_fw (sy_up (sy_up τx 44 23 (σ (sy_vw a1.toNatClampNeg) 6)) 64 a1.toNatClampNeg 0) τ3 ∧ τ3 44 36 = (sy_up (sy_up τx 44 23 (σ (sy_vw a1.toNatClampNeg) 6)) 64 a1.toNatClampNeg 0) 44 36 := by
      have hlast : sy_iM (sy_cv 4 0 sf_X4_lastHeld) (sy_aR (sy_rL 2) sy_aN) [.ref 0, .int a1, .ref (sy_vw a1.toNatClampNeg)] σ = some (.inl (ya_X4_lastHeld σ a1.toNatClampNeg), σ) := ee_M (ee_aR (ee_R rfl) ee_aN) (ee_cv (yt_X4_lastHeld W hv) (yv_rc hv rfl))
      have h23 : ∀ τx : sy_Mem, (sy_up (sy_up τx 44 23 (σ (sy_vw a1.toNatClampNeg) 6)) 64 a1.toNatClampNeg 0) 44 23 = σ (sy_vw a1.toNatClampNeg) 6 := fun τx => by rw [yu_ne (by decide), yu_at]
      have run : ∀ {st A'}, sy_iQ (sy_ceq (sy_iL 3) (sy_iK (-1))) (sy_iK 6) (sy_iM (sy_cv 5 1 sf_X5_deleteFrom) (sy_aR (sy_rL 0) (sy_aI (sy_iL 3) sy_aN))) [.ref 0, .int a1, .ref (sy_vw a1.toNatClampNeg), .int (ya_X4_lastHeld σ a1.toNatClampNeg)] (sy_up σ (sy_vw a1.toNatClampNeg) 6 0) = some (.inl st, A') → sf_X5_delete [.ref 0, .int a1] σ = some (sy_rI (.inl st), sy_up A' 19 0 0) := fun {st A'} h => by
        refine ee_meth ?_ rfl
        unfold sm_X5_delete
        refine es_Q ((es_SRx (ee_aR (ee_R rfl) (ee_aI (ee_L rfl) ee_aN)) (ee_cv (yt_X5_viewOf σ a1) rfl) (r := some (sy_rI (.inl st), sy_up A' 19 0 0)) (fun hx => ?_)).trans (by rw [if_pos h1]))
        refine es_Q (es_SI hlast (es_Q (es_C (ee_aR (ee_R rfl) ee_aN) (ee_cv (yt_X4_release σ hv) (yv_rc hv rfl)) ?_)))
        refine es_Q (es_SI h ?_)
        exact es_Q (es_E (ee_M (ee_aR (ee_rF (ee_R rfl) rfl) ee_aN) (ee_cv (yt_X0_drop _) rfl)) (es_eI (ee_L rfl)))
      rcases Nat.eq_zero_or_pos (σ (sy_vw a1.toNatClampNeg) 6).toNatClampNeg with e0 | e0
      · have h6 : σ (sy_vw a1.toNatClampNeg) 6 = 0 := by rw [q6, e0]; rfl
        have hl : ya_X4_lastHeld σ a1.toNatClampNeg = -1 := by
          unfold ya_X4_lastHeld
          rw [h6]
          rfl
        refine ⟨6, _, run (A' := sy_up σ (sy_vw a1.toNatClampNeg) 6 0) ?_, fun k hk => yu_ne (by omega), fun τx Mx => ⟨_, ?_, hIr, yr_loses Mx H.1 hv, fun _ _ => rfl, rfl⟩⟩
        · rw [hl]
          exact (ee_iQ (z := true) (y := 6) ((ee_cB (ee_L rfl) ee_K).trans rfl) (fun _ => ee_K) (fun h => by cases h))
        · refine ee_meth ?_ rfl
          unfold sm_X6_deletes
          exact es_Q (es_It ((ee_cB (ee_F (ee_R rfl) rfl) ee_K).trans (by rw [h23, h6]; rfl)) (es_eI ee_K))
      · have hl : ya_X4_lastHeld σ a1.toNatClampNeg = ya_held σ a1.toNatClampNeg (nI ((σ (sy_vw a1.toNatClampNeg) 6).toNatClampNeg - 1)) := by
          unfold ya_X4_lastHeld
          have e : σ (sy_vw a1.toNatClampNeg) 6 - 1 = nI ((σ (sy_vw a1.toNatClampNeg) 6).toNatClampNeg - 1) := by
            have := nI_sub1 (i := (σ (sy_vw a1.toNatClampNeg) 6).toNatClampNeg) e0 (by omega)
            rw [← q6] at this
            exact this
          rw [e]
        obtain ⟨d1, _, d3⟩ := yv_held H.1 hv (i := (σ (sy_vw a1.toNatClampNeg) 6).toNatClampNeg - 1) (by omega)
        rw [hl] at run
        have hg : yl (sy_up σ (sy_vw a1.toNatClampNeg) 6 0) (ya_held σ a1.toNatClampNeg (nI ((σ (sy_vw a1.toNatClampNeg) 6).toNatClampNeg - 1))) := by
          rw [yl_c (yu_ne (by omega))]
          exact d3
        have one := fun (τx : sy_Mem) (Mx : yr_M σ τx) => yw_delF hIr (yr_loses Mx H.1 hv (x := σ (sy_vw a1.toNatClampNeg) 6)) hg hv (h := (σ (sy_vw a1.toNatClampNeg) 6).toNatClampNeg) ⟨e0, q4⟩ (by rw [h23]; exact q6) (by rw [(yw_lostM Mx hv (i := (σ (sy_vw a1.toNatClampNeg) 6).toNatClampNeg - 1) (by omega)).1]; exact d1.symm)
        obtain ⟨st, A', _, c1, _, _, _, c5, _, _⟩ := one σ H.2
        refine ⟨st, A', run (ee_iQf ((ee_cB (ee_L rfl) ee_K).trans (by rw [decide_eq_false (yl_ne d3)])) (ee_M (ee_aR (ee_R rfl) (ee_aI (ee_L rfl) ee_aN)) (ee_cv c1 rfl))), fun k hk => by rw [c5 k hk, yu_ne (by omega)], fun τx Mx => ?_⟩
        obtain ⟨st2, A2, τ3, d1, d2, d3, d4, d5, d6, d7⟩ := one τx Mx
        rw [c1] at d1
        obtain ⟨rfl, rfl⟩ : st = st2 ∧ A' = A2 := by
          injection d1 with d1
          injection d1 with e1 e2
          injection e1 with e1
          injection e1 with e1
          injection e1 with e1
          exact ⟨e1, e2⟩
        exact ⟨τ3, d2, d3, d4, d6, d7⟩
    obtain ⟨st, A', hc, c5, hm⟩ := both
    have hge : ∀ k, 44 ≤ k → k ≤ 76 → (sy_up A' 19 0 0) k = σ k := fun k h1 h2 => by
      rw [yu_ne (by omega), c5 k h1]
    have M0 := yw_note H.2 hge (.inl st)
    have M1 : yr_M σ (sy_up (sy_note (.inl st) (sy_up A' 19 0 0)) 44 36 0) := yr_M_44 M0 ⟨by decide, by decide⟩
    obtain ⟨τ3, d2, d3, d4, d6, d7⟩ := hm _ M1
    have hfr : ym_fw (sy_note (.inl st) (sy_up A' 19 0 0)) (sy_up τ3 44 24 0) := ym_fw_trans (ym_fw_trans (ym_fw_up ⟨by decide, by decide⟩) (ym_fw_trans (ym_fw_up ⟨by decide, by decide⟩) (ym_fw_up ⟨by decide, by decide⟩))) (ym_fw_trans d6 (ym_fw_up ⟨by decide, by decide⟩))
    have h36 : τ3 44 36 = 0 := by
      rw [d7, yu_ne (by decide), yu_an (by decide), yu_at]
    have hR := yw_next (yn_drop d3) (yr_drop d4 d3) hfr
    refine ⟨.inl st, _, _, sy_up τ3 44 24 0, hc, fun E e => (by cases e), ?_, yw_alike hfr ?_ (fun x hx => by cases hx; rfl), ⟨yn_I_to hR.1 (by omega), hR.2⟩⟩
    · refine ee_meth ?_ rfl
      unfold sm_X6_delete
      refine es_Q ((es_goes (hgo _)).trans ?_)
      rw [h1, if_pos (show ((true && true) && true) = true from rfl)]
      rw [← ea1] at d2
      have hl := ym_loses M1 hv
      rw [← ea1] at hl
      exact es_Q (es_C (ee_aR (ee_R rfl) (ee_aI (ee_L rfl) ee_aN)) (ee_cv hl rfl) (es_Q (es_SI (ee_M (ee_aR (ee_R rfl) (ee_aI (ee_L rfl) ee_aN)) (ee_cv d2 rfl)) (es_Q (es_SI (ee_M (ee_aR (ee_R rfl) ee_aN) (ee_cv (ym_clears d4) rfl)) (es_eI (ee_L rfl)))))))
    · rw [yu_an (by decide), h36]
      rfl
  · obtain ⟨w1, w2⟩ := yw_throw H (E := 1)
    refine ⟨.inr 1, σ, 0, _, ?_, fun E e => (by cases e; decide), ?_, w1, ⟨yn_I_to w2.1 (by omega), w2.2⟩⟩
    · refine ee_meth ?_ rfl
      unfold sm_X5_delete
      refine es_Q ((es_SRx (ee_aR (ee_R rfl) (ee_aI (ee_L rfl) ee_aN)) (ee_cv (yt_X5_viewOf σ a1) rfl) (r := some (sy_rI (.inl 0), σ)) (fun hx => absurd hx h1)).trans ?_)
      rw [if_neg h1]
      rfl
    · refine ee_meth ?_ rfl
      unfold sm_X6_delete
      refine es_Q ((es_goes (hgo _)).trans ?_)
      rw [show (decide (0 ≤ a1) && decide (a1 < 4)) = false by simpa using h1]
      rfl
end YWe
