section YWb
variable {σ τ A : sy_Mem} {t : Nat}
/-- how many of the first n have P -/
def ya_cw (P : Nat → Bool) : Nat → Nat
  | 0 => 0
  | n + 1 => ya_cw P n + (if P n then 1 else 0)
theorem ya_cw_le (P : Nat → Bool) : ∀ n, ya_cw P n ≤ n
  | 0 => Nat.le_refl _
  | n + 1 => by
    have := ya_cw_le P n
    rw [show ya_cw P (n + 1) = ya_cw P n + (if P n then 1 else 0) from rfl]
    split <;> omega
theorem ya_cw_congr {P Q : Nat → Bool} : ∀ {n : Nat}, (∀ i, i < n → P i = Q i) → ya_cw P n = ya_cw Q n
  | 0, _ => rfl
  | n + 1, h => by
    rw [show ya_cw P (n + 1) = ya_cw P n + (if P n then 1 else 0) from rfl, show ya_cw Q (n + 1) = ya_cw Q n + (if Q n then 1 else 0) from rfl, ya_cw_congr (fun i hi => h i (by omega)), h n (by omega)]
theorem yt_X5_tied (W : ya_W σ) (a : Int32) : sf_X5_tied [.ref 0, .int a] σ = if (decide (0 ≤ a) && decide (a < 4)) then some (.inl (some (.int (nI (ya_cw (fun i => ya_X3_isTied σ (nI i) (ya_here σ a.toNatClampNeg)) 60)))), σ) else some (.inr 1, σ) := by
  refine ee_meth ?_ rfl
  unfold sm_X5_tied
  refine es_Q (es_SRx (ee_aR (ee_R rfl) (ee_aI (ee_L rfl) ee_aN)) (ee_cv (yt_X5_viewOf σ a) rfl) (fun hx => ?_))
  refine es_Q (es_SI (ee_M (ee_aR (ee_R rfl) ee_aN) (ee_cv (yt_X4_segmentAt σ (yv_of hx).1) (yv_rc (yv_of hx).1 rfl))) ?_)
  refine es_Q (es_SI ee_K0 (es_Q (es_B (es_Q (es_SI ee_K0 ?_)))))
  refine es_loop (E := fun i => [.ref 0, .int a, .ref (sy_vw a.toNatClampNeg), .int (ya_here σ a.toNatClampNeg), .int (nI (ya_cw (fun i => ya_X3_isTied σ (nI i) (ya_here σ a.toNatClampNeg)) i)), .int (nI i)]) (S := fun _ => σ) 60 0 1000 (by omega) (fun i _ hi => (es_c60 rfl (by omega)).trans (by rw [decide_eq_true (by omega)])) ((es_c60 rfl (by omega)).trans (by rw [decide_eq_false (by omega)])) (fun i _ hi k' => ?_) (es_eI (ee_L rfl))
  have hT : sy_cI (sy_iM (sy_cv 3 2 sf_X3_isTied) (sy_aR (sy_rF 5 1 (sy_rL 0)) (sy_aI (sy_iL 5) (sy_aI (sy_iL 3) sy_aN)))) [.ref 0, .int a, .ref (sy_vw a.toNatClampNeg), .int (ya_here σ a.toNatClampNeg), .int (nI (ya_cw (fun i => ya_X3_isTied σ (nI i) (ya_here σ a.toNatClampNeg)) i)), .int (nI i)] σ = some (.inl (ya_X3_isTied σ (nI i) (ya_here σ a.toNatClampNeg)), σ) := ee_cb (ee_M (ee_aR (ee_rF (ee_R rfl) rfl) (ee_aI (ee_L rfl) (ee_aI (ee_L rfl) ee_aN))) (ee_cv (yt_X3_isTied W _ _) rfl))
  have e : ya_cw (fun i => ya_X3_isTied σ (nI i) (ya_here σ a.toNatClampNeg)) (i + 1) = ya_cw (fun i => ya_X3_isTied σ (nI i) (ya_here σ a.toNatClampNeg)) i + (if ya_X3_isTied σ (nI i) (ya_here σ a.toNatClampNeg) then 1 else 0) := rfl
  rw [e]
  cases hq : ya_X3_isTied σ (nI i) (ya_here σ a.toNatClampNeg) with
  | true => exact es_Q (es_It (hT.trans (by rw [hq])) (es_In1 rfl (es_In1 rfl rfl)))
  | false => exact es_Q (es_If (hT.trans (by rw [hq])) (es_N (es_In1 rfl rfl)))
/-- tied: as the component and as the model have it -/
theorem yg_isTied (I : yn_I t A) {i : Nat} {r : Int32} (hi : i < 60) (hr : yl A r) : ya_X3_isTied A (nI i) r = (((!decide (yT A (nI i) = -1)) && (!decide (tG A (yT A (nI i)) = -1))) && decide (ya_X3_rootOf A (tG A (yT A (nI i))) (ya_N A (nI i) 2) = r)) := by
  unfold ya_X3_isTied
  show (((!decide (tG A (yT A (nI i)) = -1)) && decide (tG A (yT A (nI i)) = yT A r)) && decide (ya_N A (nI i) 2 = ya_N A r 0)) = _
  by_cases hl : yT A (nI i) = -1
  · have : tG A (yT A (nI i)) = -1 := by
      rw [hl]
      show ya_tg A 7 (-1) (-1) = -1
      unfold ya_tg
      rw [ya_isT_m]
      rfl
    rw [decide_eq_true hl, decide_eq_true this]
    rfl
  · have hs : yl A (nI i) := hl
    rw [decide_eq_false hl]
    rcases yg_tgt I hs with h | ⟨h1, h2⟩
    · rw [decide_eq_true h]
      rfl
    · rw [decide_eq_false h1]
      have e := yg_rootOf I (u := tG A (yT A (nI i))) (key := ya_N A (nI i) 2) h1 h2 hr
      have e2 : decide (ya_X3_rootOf A (tG A (yT A (nI i))) (ya_N A (nI i) 2) = r) = (decide (tG A (yT A (nI i)) = yT A r) && decide (ya_N A (nI i) 2 = ya_N A r 0)) := by
        rw [Bool.eq_iff_iff, Bool.and_eq_true, decide_eq_true_eq, decide_eq_true_eq, decide_eq_true_eq, e]
        constructor
        · rintro ⟨a, b⟩; exact ⟨a.symm, b.symm⟩
        · rintro ⟨a, b⟩; exact ⟨a.symm, b.symm⟩
      rw [e2]
      cases decide (tG A (yT A (nI i)) = yT A r) <;> cases decide (ya_N A (nI i) 2 = ya_N A r 0) <;> rfl
theorem yg_isTiedD {i : Nat} : ya_X3_isTied A (nI i) (-1) = false := by
  unfold ya_X3_isTied
  rw [show ya_sg A 11 (-1) = -1 from rfl]
  cases decide (ya_tg A 7 (-1) (ya_sg A 11 (nI i)) = -1) <;> rfl
theorem ya_cw_0 {P : Nat → Bool} : ∀ {n : Nat}, (∀ i, i < n → P i = false) → ya_cw P n = 0
  | 0, _ => rfl
  | n + 1, h => by
    rw [show ya_cw P (n + 1) = ya_cw P n + (if P n then 1 else 0) from rfl, ya_cw_0 (fun i hi => h i (by omega)), h n (by omega)]
    rfl
theorem yw_ok_tied (H : yw_R t σ) (a : Int32) : yw_OK t σ 1 sf_X5_tied sf_X6_tied [.int a] := by
  refine yw_reader H _ _ (yt_X5_tied (yn_Wo H.1) a) (fun τ M => ?_)
  have I := H.1
  refine ee_meth ?_ rfl
  unfold sm_X6_tied
  refine es_Q (es_SI ee_K0 ?_)
  have hg := ee_goes (yg_isView τ a [.ref 44, .int a, .int (nI 0)] rfl rfl)
  rw [ya_thr1] at hg
  have hend : ∀ ρ : sy_Mem, (sy_sQ (sy_sB 4 (sy_sQ (sy_sSI 4 (sy_iK 0)) (sy_wh (sy_cA (sy_clt (sy_iL 4) (sy_iK 60)) (sy_cI (sy_iL 3))) (sy_sQ (sy_sSI 2 (sy_iAdd (sy_iL 2) (sy_iQ (sy_cA (sy_cA (sy_cne (sy_iA 0 (sy_rF 6 9 (sy_rL 0)) (sy_iL 4)) (sy_iK (-1))) (sy_cne (sy_iA 0 (sy_rF 6 6 (sy_rL 0)) (sy_iA 0 (sy_rF 6 9 (sy_rL 0)) (sy_iL 4))) (sy_iK (-1)))) (sy_ceq (sy_iM (sy_cv 6 1 sf_X6_secondOf) (sy_aR (sy_rL 0) (sy_aI (sy_iL 4) sy_aN))) (sy_iA 0 (sy_rF 6 18 (sy_rL 0)) (sy_iL 1)))) (sy_iK 1) (sy_iK 0)))) (sy_sIn 4 1)) 1000))) (sy_eI (sy_iL 2))) [.ref 44, .int a, .int (nI 0), .int (ya_b false)] (fun _ => sy_fail) ρ = some (.inl (some (.int 0)), ρ) := fun ρ => by
    refine es_Q (es_B (es_Q (es_SI ee_K0 ?_)))
    unfold sy_wh
    rw [sy_bnd_at ((ee_cA (es_c60 rfl (by decide)) (fun _ => ee_cb (ee_L rfl))).trans (by rw [Bool.and_false]))]
    refine (es_eI (k := fun _ => sy_fail) (ee_L rfl)).trans ?_
    rw [nI_0]
  cases hc : (decide (0 ≤ a) && decide (a < 4)) with
  | false =>
    rw [hc, if_neg (show ¬ (false = true) by decide)] at hg
    rw [if_neg (show ¬ (false = true) by decide), if_neg (show ¬ (false = true) by decide)]
    exact es_Q (es_SI (x := ya_b false) (ee_iC (ee_cA (x := false) (y := true) hg (fun h => absurd h (by decide)))) (hend _))
  | true =>
    rw [hc, if_pos (show true = true from rfl)] at hg
    rw [if_pos (show true = true from rfl), if_pos (show true = true from rfl)]
    obtain ⟨hv, ea⟩ := yv_of hc
    have M' := yr_M_44 M (i := 36) (x := 0) ⟨by decide, by decide⟩
    have ec : some (Value.int a) = some (.int (nI a.toNatClampNeg)) := by rw [← ea]
    have hcond : sy_iC (sy_cA (sy_cI (sy_iM (sy_cv 6 3 sf_X6_goes) (sy_aR (sy_rL 0) (sy_aI (sy_iM (sy_cs 1 sf_X6_isView) (sy_aI (sy_iL 1) sy_aN)) (sy_aI (sy_iK 1) (sy_aI (sy_iK 1) sy_aN)))))) (sy_ceq (sy_iA 0 (sy_rF 6 17 (sy_rL 0)) (sy_iL 1)) (sy_iK 0))) [.ref 44, .int a, .int (nI 0)] τ = some (.inl (ya_b (decide (ya_mode σ a.toNatClampNeg = 0))), sy_up τ 44 36 0) :=
      (ee_iC (ee_cA (x := true) hg (fun _ => ee_cB (em_61 M' hv (ee_rF (ee_R rfl) rfl) (ee_L ec)) ee_K))).trans (by rw [Bool.true_and])
    by_cases hm : ya_mode σ a.toNatClampNeg = 0
    · have hl := yg_mode0 I hv (decide_eq_true hm)
      have hh : ya_here σ a.toNatClampNeg = σ (sy_vw a.toNatClampNeg) 2 := by
        by_cases e : σ (sy_vw a.toNatClampNeg) 3 = 0
        · exact absurd hm ((yg_here I hv).1 e).2
        · exact ((yg_here I hv).2 e).1
      rw [hm] at hcond
      rw [hh]
      refine es_Q (es_SI (x := ya_b true) hcond (es_Q (es_B (es_Q (es_SI ee_K0 ?_)))))
      refine es_loop (E := fun i => [.ref 44, .int a, .int (nI (ya_cw (fun i => ya_X3_isTied σ (nI i) (σ (sy_vw a.toNatClampNeg) 2)) i)), .int (ya_b true), .int (nI i)]) (S := fun _ => sy_up τ 44 36 0) 60 0 1000 (by omega) (fun i _ hi => (ee_cA (es_c60 rfl (by omega)) (fun _ => ee_cb (ee_L rfl))).trans (by rw [decide_eq_true (by omega)]; rfl)) ((ee_cA (es_c60 rfl (by omega)) (fun _ => ee_cb (ee_L rfl))).trans (by rw [decide_eq_false (by omega)]; rfl)) (fun i _ hi k' => ?_) (es_eI (ee_L rfl))
      have hi60 := yg_60 (show i < 60 by omega)
      have hT : sy_cA (sy_cA (sy_cne (sy_iA 0 (sy_rF 6 9 (sy_rL 0)) (sy_iL 4)) (sy_iK (-1))) (sy_cne (sy_iA 0 (sy_rF 6 6 (sy_rL 0)) (sy_iA 0 (sy_rF 6 9 (sy_rL 0)) (sy_iL 4))) (sy_iK (-1)))) (sy_ceq (sy_iM (sy_cv 6 1 sf_X6_secondOf) (sy_aR (sy_rL 0) (sy_aI (sy_iL 4) sy_aN))) (sy_iA 0 (sy_rF 6 18 (sy_rL 0)) (sy_iL 1))) [.ref 44, .int a, .int (nI (ya_cw (fun i => ya_X3_isTied σ (nI i) (σ (sy_vw a.toNatClampNeg) 2)) i)), .int (ya_b true), .int (nI i)] (sy_up τ 44 36 0) = some (.inl (ya_X3_isTied σ (nI i) (σ (sy_vw a.toNatClampNeg) 2)), sy_up τ 44 36 0) := by
        rw [yg_isTied I (by omega) hl]
        have hlv : ∀ {x : Bool}, ((!decide (ya_sg σ 11 (nI i) = -1)) && x) = true → yl σ (nI i) := fun h => yg_tw1 h
        exact (ee_cA (ee_cA (ee_cB (em_53 M' (ee_rF (ee_R rfl) rfl) (ee_L rfl) hi60) ee_K) (fun h => ee_cB (em_50 M' I (ee_rF (ee_R rfl) rfl) (em_53 M' (ee_rF (ee_R rfl) rfl) (ee_L rfl) hi60) (I.2.1.1 _ (by simpa [yl] using h)).1) ee_K)) (fun h => ee_cB (ee_M (ee_aR (ee_R rfl) (ee_aI (ee_L rfl) ee_aN)) (ee_cv (ym_secondOf M' I _ (hlv h)) rfl)) (em_62 M' hv (ee_rF (ee_R rfl) rfl) (ee_L ec))))
      have e : ya_cw (fun i => ya_X3_isTied σ (nI i) (σ (sy_vw a.toNatClampNeg) 2)) (i + 1) = ya_cw (fun i => ya_X3_isTied σ (nI i) (σ (sy_vw a.toNatClampNeg) 2)) i + (if ya_X3_isTied σ (nI i) (σ (sy_vw a.toNatClampNeg) 2) then 1 else 0) := rfl
      refine es_Q (es_SI ((ee_B (ee_L rfl) (ee_iQ hT (fun _ => ee_K) (fun _ => ee_K)))) (es_In1 rfl ?_))
      rw [show nI (ya_cw (fun i => ya_X3_isTied σ (nI i) (σ (sy_vw a.toNatClampNeg) 2)) i) + (if ya_X3_isTied σ (nI i) (σ (sy_vw a.toNatClampNeg) 2) = true then 1 else 0) = nI (ya_cw (fun i => ya_X3_isTied σ (nI i) (σ (sy_vw a.toNatClampNeg) 2)) (i + 1)) by
        rw [e]
        cases ya_X3_isTied σ (nI i) (σ (sy_vw a.toNatClampNeg) 2)
        · rw [if_neg (by decide), if_neg (by decide), Int32.add_zero, Nat.add_zero]
        · rw [if_pos rfl, if_pos rfl, nI_1]]
      rfl
    · have hh : ya_here σ a.toNatClampNeg = -1 := by
        by_cases e : σ (sy_vw a.toNatClampNeg) 3 = 0
        · exact ((yg_here I hv).1 e).1
        · exact absurd ((yg_here I hv).2 e).2.1 hm
      rw [decide_eq_false hm] at hcond
      rw [hh, ya_cw_0 (fun i _ => yg_isTiedD), nI_0]
      exact es_Q (es_SI (x := ya_b false) hcond (hend _))
end YWb
