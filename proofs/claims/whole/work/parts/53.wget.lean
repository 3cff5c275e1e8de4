section YW2
variable {σ τ A : sy_Mem} {t : Nat}
theorem ya_seek_ge {v : Nat} (hv : v < 4) {how : Int32} {h : Bool} {k : Nat} (hk : 44 ≤ k) : (ya_seek σ v how h).2 k = σ k := by
  have hb := yv_lt hv
  have hD : ∀ x, ya_deliver σ v x h k = σ k := fun x => ya_deliver_ne σ (by omega) (by omega) (by omega) (by omega)
  unfold ya_seek
  by_cases h1 : ya_X5_isListOrdered σ v = false
  · rw [if_pos h1]
  · rw [if_neg h1]
    by_cases h2 : how = 2 ∧ σ (sy_vw v) 5 = -1
    · rw [if_pos h2]
    · rw [if_neg h2]
      by_cases h3 : ya_finds σ v how = -1
      · rw [if_pos h3]
        cases (!decide (how = 1) || decide (0 < σ 19 0))
        · exact ya_stand_ne (by omega)
        · rfl
      · rw [if_neg h3]
        show ya_got σ v how h _ k = _
        unfold ya_got
        rw [ya_stand_ne (by omega)]
        cases decide (how = 2)
        · show sy_up _ (sy_vw v) 5 _ k = _
          rw [yu_ne (by omega), hD]
        · exact hD _
theorem yw_throw (H : yw_R t σ) {E : Nat} : sy_alike (.inr E) 0 (sy_up σ 44 36 (Int32.ofNat E)) ∧ yw_R t (sy_up σ 44 36 (Int32.ofNat E)) := by
  have hf : ym_fw (sy_note (.inr E) σ) (sy_up σ 44 36 (Int32.ofNat E)) := ym_fw_up (τ := σ) ⟨by decide, by decide⟩
  exact ⟨yw_alike hf yu_at (fun x hx => by cases hx), yw_next H.1 (yr_M_44 H.2 ⟨by decide, by decide⟩) hf⟩
theorem yw_note (M : yr_M σ σ) {σ1 : sy_Mem} (hg : ∀ k, 44 ≤ k → k ≤ 76 → σ1 k = σ k) (r : Int32 ⊕ Nat) : yr_M σ (sy_note r σ1) := yr_M_ge M (fun k h1 h2 => by rw [sy_note_ne (by omega), hg k h1 h2])
theorem yw_get (H : yw_R t σ) (a1 a2 : Int32) (h : Bool) : ∃ r σ1 y τ2, sf_X5_get [.ref 0, .int a1, .int a2, .int (ya_b h)] σ = some (sy_rI r, σ1) ∧ (∀ E, r = .inr E → 1 ≤ E ∧ E ≤ 2) ∧ sf_X6_get [.ref 44, .int a1, .int a2, .int (ya_b h)] (sy_note r σ1) = some (.inl (some (.int y)), τ2) ∧ sy_alike r y τ2 ∧ yw_R t τ2 := by
  have hg5 := yt_X5_get H.1 a1 a2 h
  have hgo : ∀ (τ : sy_Mem), (sy_aR (sy_rL 0) (sy_aI (sy_iM (sy_cs 1 sf_X6_isView) (sy_aI (sy_iL 1) sy_aN)) (sy_aI (sy_iM (sy_cs 3 sf_X6_in) (sy_aI (sy_iL 2) (sy_aI (sy_iK 0) (sy_aI (sy_iK 2) sy_aN)))) (sy_aI (sy_iK 1) sy_aN)))) [.ref 44, .int a1, .int a2, .int (ya_b h)] τ = some (.inl [.ref 44, .int (ya_b (decide (0 ≤ a1) && decide (a1 < 4))), .int (ya_b (decide (0 ≤ a2) && decide (a2 < 3))), .int (ya_b true)], τ) := fun τ => by
    rw [← yl_le1 (x := a2) (n := 2) rfl]
    exact ee_aR (ee_R rfl) (ee_aI (ee_M (ee_aI (ee_L rfl) ee_aN) (ee_cs (ym_isView τ a1) rfl)) (ee_aI (ee_M (ee_aI (ee_L rfl) (ee_aI ee_K (ee_aI ee_K ee_aN))) (ee_cs (ym_in τ a2 0 2) rfl)) (ee_aI (x := ya_b true) ee_K ee_aN)))
  by_cases h1 : (decide (0 ≤ a1) && decide (a1 < 4)) = true
  · rw [if_pos h1] at hg5
    by_cases h2 : (decide (0 ≤ a2) && decide (a2 < 3)) = true
    · rw [if_pos h2] at hg5
      have hv : a1.toNatClampNeg < 4 := by
        have := yl_isL.mp h1
        rw [yi_clampInt]
        omega
      have ea1 : a1 = nI a1.toNatClampNeg := yi_nat (yi_pos.mpr (yl_isL.mp h1).1)
      have hb := yv_lt hv
      have hIr := yn_release H.1 hv
      have hge : ∀ k, 44 ≤ k → k ≤ 76 → ya_get σ a1.toNatClampNeg a2 h k = σ k := fun k h1 h2 => by
        unfold ya_get
        rw [yu_ne (by omega), ya_seek_ge hv h1, yu_ne (by omega)]
      have M0 := yw_note H.2 hge (.inl (ya_seek (sy_up σ (sy_vw a1.toNatClampNeg) 6 0) a1.toNatClampNeg a2 h).1)
      have M1 : yr_M σ (sy_up (sy_note (.inl (ya_seek (sy_up σ (sy_vw a1.toNatClampNeg) 6 0) a1.toNatClampNeg a2 h).1) (ya_get σ a1.toNatClampNeg a2 h)) 44 36 0) := yr_M_44 M0 ⟨by decide, by decide⟩
      have M2 := yr_loses M1 H.1 hv (x := σ (sy_vw a1.toNatClampNeg) 6)
      obtain ⟨τ3, g1, g2, g3, g4⟩ := ym_gets M2 hIr hv a2 h yu_at
      have hfr : ym_fw (sy_note (.inl (ya_seek (sy_up σ (sy_vw a1.toNatClampNeg) 6 0) a1.toNatClampNeg a2 h).1) (ya_get σ a1.toNatClampNeg a2 h)) (sy_up τ3 44 24 0) := ym_fw_trans (ym_fw_trans (ym_fw_up ⟨by decide, by decide⟩) (ym_fw_trans (ym_fw_up ⟨by decide, by decide⟩) (ym_fw_up ⟨by decide, by decide⟩))) (ym_fw_trans (ym_fw_of g4) (ym_fw_up ⟨by decide, by decide⟩))
      have h36 : τ3 44 36 = 0 := by
        rw [g4 44 (by decide), yu_ne (by decide), yu_an (by decide), yu_at]
      refine ⟨.inl (ya_seek (sy_up σ (sy_vw a1.toNatClampNeg) 6 0) a1.toNatClampNeg a2 h).1, _, _, sy_up τ3 44 24 0, hg5, fun E e => (by cases e), ?_, yw_alike hfr ?_ (fun x hx => by cases hx; rfl), yw_next (yn_drop g3) (yr_drop g2 g3) hfr⟩
      · refine ee_meth ?_ rfl
        unfold sm_X6_get
        refine es_Q ((es_goes (hgo _)).trans ?_)
        rw [h1, h2, if_pos (show ((true && true) && true) = true from rfl)]
        rw [← ea1] at g1
        have hl := ym_loses M1 hv
        rw [← ea1] at hl
        exact es_Q (es_C (ee_aR (ee_R rfl) (ee_aI (ee_L rfl) ee_aN)) (ee_cv hl rfl) (es_Q (es_SI (ee_M (ee_aR (ee_R rfl) (ee_aI (ee_L rfl) (ee_aI (ee_L rfl) (ee_aI (ee_L rfl) ee_aN)))) (ee_cv g1 rfl)) (es_Q (es_SI (ee_M (ee_aR (ee_R rfl) ee_aN) (ee_cv (ym_clears g2) rfl)) (es_eI (ee_L rfl)))))))
      · rw [yu_an (by decide), h36]
        rfl
    · rw [if_neg h2] at hg5
      obtain ⟨w1, w2⟩ := yw_throw H (E := 2)
      refine ⟨.inr 2, σ, 0, _, hg5, fun E e => (by cases e; decide), ?_, w1, w2⟩
      refine ee_meth ?_ rfl
      unfold sm_X6_get
      refine es_Q ((es_goes (hgo _)).trans ?_)
      rw [h1, show (decide (0 ≤ a2) && decide (a2 < 3)) = false by simpa using h2]
      rfl
  · rw [if_neg h1] at hg5
    obtain ⟨w1, w2⟩ := yw_throw H (E := 1)
    refine ⟨.inr 1, σ, 0, _, hg5, fun E e => (by cases e; decide), ?_, w1, w2⟩
    refine ee_meth ?_ rfl
    unfold sm_X6_get
    refine es_Q ((es_goes (hgo _)).trans ?_)
    rw [show (decide (0 ≤ a1) && decide (a1 < 4)) = false by simpa using h1]
    rfl
end YW2
