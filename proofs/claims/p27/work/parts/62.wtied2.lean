section YWb
variable {σ τ A : sy_Mem} {t : Nat}
/-- how many of the first n have P -/
def ya_cw (P : Nat → Bool) : Nat → Nat
  | 0 => 0
  | n + 1 => ya_cw P n + (if P n then 1 else 0)
theorem ya_cw_le (P : Nat → Bool) : ∀ n, ya_cw P n ≤ n
  | 0 => Nat.le_refl _
  | n + 1 => by
    have := ya_cw_le P n
    rw [show ya_cw P (n + 1) = ya_cw P n + (if P n then 1 else 0) from rfl]
    split <;> omega
theorem ya_cw_congr {P Q : Nat → Bool} : ∀ {n : Nat}, (∀ i, i < n → P i = Q i) → ya_cw P n = ya_cw Q n
  | 0, _ => rfl
  | n + 1, h => by
    rw [show ya_cw P (n + 1) = ya_cw P n + (if P n then 1 else 0) from rfl, show ya_cw Q (n + 1) = ya_cw Q n + (if Q n then 1 else 0) from rfl, ya_cw_congr (fun i hi => h i (by omega)), h n (by omega)]
theorem yt_X5_tied (W : ya_W σ) (a : Int32) : sf_X5_tied [.ref 0, .int a] σ = if (decide (0 ≤ a) && decide (a < 4)) then some (.inl (some (.int (nI (ya_cw (fun i => ya_X3_isTied σ (nI i) (ya_here σ a.toNatClampNeg)) 60)))), σ) else some (.inr 1, σ) := by
  refine ee_meth ?_ rfl
  unfold sm_X5_tied
  refine es_Q (es_SRx (ee_aR (ee_R rfl) (ee_aI (ee_L rfl) ee_aN)) (ee_cv (yt_X5_viewOf σ a) rfl) (fun hx => ?_))
  refine es_Q (es_SI (ee_M (ee_aR (ee_R rfl) ee_aN) (ee_cv (yt_X4_segmentAt σ (yv_of hx).1) (yv_rc (yv_of hx).1 rfl))) ?_)
  refine es_Q (es_SI ee_K0 (es_Q (es_B (es_Q (es_SI ee_K0 ?_)))))
  refine es_loop (E := fun i => [.ref 0, .int a, .ref (sy_vw a.toNatClampNeg), .int (ya_here σ a.toNatClampNeg), .int (nI (ya_cw (fun i => ya_X3_isTied σ (nI i) (ya_here σ a.toNatClampNeg)) i)), .int (nI i)]) (S := fun _ => σ) 60 0 1000 (by omega) (fun i _ hi => (es_c60 rfl (by omega)).trans (by rw [decide_eq_true (by omega)])) ((es_c60 rfl (by omega)).trans (by rw [decide_eq_false (by omega)])) (fun i _ hi k' => ?_) (es_eI (ee_L rfl))
  have hT : sy_cI (sy_iM (sy_cv 3 2 sf_X3_isTied) (sy_aR (sy_rF 5 1 (sy_rL 0)) (sy_aI (sy_iL 5) (sy_aI (sy_iL 3) sy_aN)))) [.ref 0, .int a, .ref (sy_vw a.toNatClampNeg), .int (ya_here σ a.toNatClampNeg), .int (nI (ya_cw (fun i => ya_X3_isTied σ (nI i) (ya_here σ a.toNatClampNeg)) i)), .int (nI i)] σ = some (.inl (ya_X3_isTied σ (nI i) (ya_here σ a.toNatClampNeg)), σ) := ee_cb (ee_M (ee_aR (ee_rF (ee_R rfl) rfl) (ee_aI (ee_L rfl) (ee_aI (ee_L rfl) ee_aN))) (ee_cv (yt_X3_isTied W _ _) rfl))
  have e : ya_cw (fun i => ya_X3_isTied σ (nI i) (ya_here σ a.toNatClampNeg)) (i + 1) = ya_cw (fun i => ya_X3_isTied σ (nI i) (ya_here σ a.toNatClampNeg)) i + (if ya_X3_isTied σ (nI i) (ya_here σ a.toNatClampNeg) then 1 else 0) := rfl
  rw [e]
  cases hq : ya_X3_isTied σ (nI i) (ya_here σ a.toNatClampNeg) with
  | true => exact es_Q (es_It (hT.trans (by rw [hq])) (es_In1 rfl (es_In1 rfl rfl)))
  | false => exact es_Q (es_If (hT.trans (by rw [hq])) (es_N (es_In1 rfl rfl)))
/-- tied: as the component and as the model have it -/
theorem yg_isTied (I : yn_I t A) {i : Nat} {r : Int32} (hi : i < 60) (hr : yl A r) : ya_X3_isTied A (nI i) r = (((!decide (yT A (nI i) = -1)) && (!decide (tG A (yT A (nI i)) = -1))) && decide (ya_X3_rootOf A (tG A (yT A (nI i))) (ya_N A (nI i) 2) = r)) := by
  unfold ya_X3_isTied
  show (((!decide (tG A (yT A (nI i)) = -1)) && decide (tG A (yT A (nI i)) = yT A r)) && decide (ya_N A (nI i) 2 = ya_N A r 0)) = _
  by_cases hl : yT A (nI i) = -1
  · have : tG A (yT A (nI i)) = -1 := by
      rw [hl]
      show ya_tg A 7 (-1) (-1) = -1
      unfold ya_tg
      rw [ya_isT_m]
      rfl
    rw [decide_eq_true hl, decide_eq_true this]
    rfl
  · have hs : yl A (nI i) := hl
    rw [decide_eq_false hl]
    rcases yg_tgt I hs with h | ⟨h1, h2⟩
    · rw [decide_eq_true h]
      rfl
    · rw [decide_eq_false h1]
      have e := yg_rootOf I (u := tG A (yT A (nI i))) (key := ya_N A (nI i) 2) h1 h2 hr
      have e2 : decide (ya_X3_rootOf A (tG A (yT A (nI i))) (ya_N A (nI i) 2) = r) = (decide (tG A (yT A (nI i)) = yT A r) && decide (ya_N A (nI i) 2 = ya_N A r 0)) := by
        rw [Bool.eq_iff_iff, Bool.and_eq_true, decide_eq_true_eq, decide_eq_true_eq, decide_eq_true_eq, e]
        constructor
        · rintro ⟨a, b⟩; exact ⟨a.symm, b.symm⟩
        · rintro ⟨a, b⟩; exact ⟨a.symm, b.symm⟩
      rw [e2]
      cases decide (tG A (yT A (nI i)) = yT A r) <;> cases decide (ya_N A (nI i) 2 = ya_N A r 0) <;> rfl
theorem yg_isTiedD {i : Nat} : ya_X3_isTied A (nI i) (-1) = false := by
  unfold ya_X3_isTied
  rw [show ya_sg A 11 (-1) = -1 from rfl]
  cases decide (ya_tg A 7 (-1) (ya_sg A 11 (nI i)) = -1) <;> rfl
theorem ya_cw_0 {P : Nat → Bool} : ∀ {n : Nat}, (∀ i, i < n → P i = false) → ya_cw P n = 0
  | 0, _ => rfl
  | n + 1, h => by
    rw [show ya_cw P (n + 1) = ya_cw P n + (if P n then 1 else 0) from rfl, ya_cw_0 (fun i hi => h i (by omega)), h n (by omega)]
    rfl
end YWb
