/-! the turn of rowAnew -/
section YWf
variable {σ τ A : sy_Mem} {t : Nat}
theorem ya_cw_one {P Q : Nat → Bool} {j : Nat} : ∀ {n : Nat}, (∀ i, i < n → P i = (Q i || decide (i = j))) → Q j = false → ya_cw P n = ya_cw Q n + (if j < n then 1 else 0)
  | 0, _, _ => rfl
  | n + 1, h, hj => by
    rw [show ya_cw P (n + 1) = ya_cw P n + (if P n then 1 else 0) from rfl, show ya_cw Q (n + 1) = ya_cw Q n + (if Q n then 1 else 0) from rfl, ya_cw_one (fun i hi => h i (by omega)) hj, h n (by omega)]
    by_cases e : n = j
    · rw [e, hj, if_neg (by omega), if_pos (show j < j + 1 by omega), decide_eq_true (show j = j from rfl)]
      rfl
    · rw [decide_eq_false e, Bool.or_false]
      by_cases q : j < n
      · rw [if_pos q, if_pos (show j < n + 1 by omega)]
        omega
      · rw [if_neg q, if_neg (show ¬ j < n + 1 by omega)]
        omega
/-- in a row the segments ahead of place p are p -/
theorem ya_cw_place (I : yn_I t A) {d : Int32} (hd : 0 ≤ d.toInt ∧ d.toInt < 3) : ∀ (p : Nat), (p : Int) ≤ (ya_cnt A d).toInt → ya_cw (fun i => decide (ya_sg A 11 (nI i) ≠ -1 ∧ sD A (nI i) = d ∧ (yL A (nI i)).toInt < (p : Int))) 60 = p
  | 0, _ => ya_cw_0 (fun i hi => by
      rw [decide_eq_false_iff_not]
      rintro ⟨h1, _, h3⟩
      have := (yg_pl I h1).1
      omega)
  | p + 1, hp => by
    have ih := ya_cw_place I hd p (by omega)
    have hc := yg_cnt I hd
    have hp' : 0 ≤ (nI p).toInt ∧ (nI p).toInt < (ya_cnt A d).toInt := by rw [nI_toInt (by omega)]; omega
    obtain ⟨h1, h2, h3⟩ := yg_at I hd hp'
    have hin := yl_in h1
    have e0 : ya_at A d (nI p) = nI (ya_at A d (nI p)).toNatClampNeg := yi_nat (yi_pos.mpr hin.1)
    have hlt : (ya_at A d (nI p)).toNatClampNeg < 60 := by rw [yi_clampInt]; omega
    have key := ya_cw_one (P := fun i => decide (ya_sg A 11 (nI i) ≠ -1 ∧ sD A (nI i) = d ∧ (yL A (nI i)).toInt < ((p + 1 : Nat) : Int))) (Q := fun i => decide (ya_sg A 11 (nI i) ≠ -1 ∧ sD A (nI i) = d ∧ (yL A (nI i)).toInt < (p : Int))) (j := (ya_at A d (nI p)).toNatClampNeg) (n := 60) (fun i hi => by
      rw [Bool.eq_iff_iff, Bool.or_eq_true, decide_eq_true_eq, decide_eq_true_eq, decide_eq_true_eq]
      constructor
      · rintro ⟨g1, g2, g3⟩
        by_cases q : (yL A (nI i)).toInt < (p : Int)
        · exact Or.inl ⟨g1, g2, q⟩
        · right
          have g4 : (yL A (nI i)).toInt = (p : Int) := by omega
          have : nI i = ya_at A d (nI p) := yl_same I g1 h1 (g2.trans h2.symm) (by rw [h3, nI_toInt (by omega), g4])
          rw [← this, nI_clamp (by omega)]
      · rintro (⟨g1, g2, g3⟩ | g)
        · exact ⟨g1, g2, by omega⟩
        · rw [g, ← e0]
          refine ⟨h1, h2, ?_⟩
          rw [h3, nI_toInt (by omega)]
          omega) (by
      rw [decide_eq_false_iff_not]
      rw [← e0]
      rintro ⟨_, _, g⟩
      rw [h3, nI_toInt (by omega)] at g
      omega)
    rw [key, ih, if_pos hlt]
theorem yl_d1 {d : Int32} {s : Int32} (hd : 0 ≤ d.toInt ∧ d.toInt < 3) (h : ya_X3_databaseOf A s = d) : yl A s := by
  intro e
  unfold ya_X3_databaseOf ya_tg at h
  rw [e, ya_isT_m, if_neg (by decide)] at h
  rw [← h, yl_cm] at hd
  omega
theorem yt_X5_comparedAhead (I : yn_I t σ) {d s : Int32} (hd : 0 ≤ d.toInt ∧ d.toInt < 3) (hs : yl σ s) (h : sD σ s = d) : sf_X5_comparedAhead [.ref 0, .int d, .int s] σ = some (.inl (some (.int (yL σ s))), σ) := by
  have W := yn_Wo I
  have hp := yg_pl I hs
  have hpl : (yL σ s) = nI (yL σ s).toNatClampNeg := yi_nat (yi_pos.mpr hp.1)
  have e := ya_cw_place I hd (yL σ s).toNatClampNeg (by rw [yi_clampInt, ← h]; omega)
  rw [hpl, ← e]
  have hx : (fun i => decide (ya_sg σ 11 (nI i) ≠ -1 ∧ sD σ (nI i) = d ∧ (yL σ (nI i)).toInt < ((yL σ s).toNatClampNeg : Int))) = (fun i => decide (ya_sg σ 11 (nI i) ≠ -1 ∧ sD σ (nI i) = d ∧ (yL σ (nI i)).toInt < (yL σ s).toInt)) := by
    funext i
    rw [show ((yL σ s).toNatClampNeg : Int) = (yL σ s).toInt by rw [yi_clampInt]; omega]
  rw [hx]
  refine ee_meth ?_ rfl
  unfold sm_X5_comparedAhead
  refine es_Q (es_SI ee_K0 (es_Q (es_B (es_Q (es_SI ee_K0 ?_)))))
  refine es_loop (E := fun i => [.ref 0, .int d, .int s, .int (nI (ya_cw (fun i => decide (ya_sg σ 11 (nI i) ≠ -1 ∧ sD σ (nI i) = d ∧ (yL σ (nI i)).toInt < (yL σ s).toInt)) i)), .int (nI i)]) (S := fun _ => σ) 60 0 1000 (by omega) (fun i _ hi => (es_c60 rfl (by omega)).trans (by rw [decide_eq_true (by omega)])) ((es_c60 rfl (by omega)).trans (by rw [decide_eq_false (by omega)])) (fun i _ hi k' => ?_) (es_eI (ee_L rfl))
  have hT : (sy_cA (sy_ceq (sy_iM (sy_cv 3 1 sf_X3_databaseOf) (sy_aR (sy_rF 5 1 (sy_rL 0)) (sy_aI (sy_iL 4) sy_aN))) (sy_iL 1)) (sy_cI (sy_iM (sy_cv 3 2 sf_X3_isAhead) (sy_aR (sy_rF 5 1 (sy_rL 0)) (sy_aI (sy_iL 4) (sy_aI (sy_iL 2) sy_aN)))))) [.ref 0, .int d, .int s, .int (nI (ya_cw (fun i => decide (ya_sg σ 11 (nI i) ≠ -1 ∧ sD σ (nI i) = d ∧ (yL σ (nI i)).toInt < (yL σ s).toInt)) i)), .int (nI i)] σ = some (.inl (decide (ya_sg σ 11 (nI i) ≠ -1 ∧ sD σ (nI i) = d ∧ (yL σ (nI i)).toInt < (yL σ s).toInt)), σ) := by
    refine (ee_cA (ee_cB (ee_M (ee_aR (ee_rF (ee_R rfl) rfl) (ee_aI (ee_L rfl) ee_aN)) (ee_cv (yt_X3_databaseOf W _) rfl)) (ee_L rfl)) (fun h0 => ee_cb (ee_M (ee_aR (ee_rF (ee_R rfl) rfl) (ee_aI (ee_L rfl) (ee_aI (ee_L rfl) ee_aN))) (ee_cv (yt_X3_isAhead I (yl_d1 hd (of_decide_eq_true h0)) hs ((of_decide_eq_true h0).trans h.symm)) rfl)))).trans ?_
    have e : (decide (ya_X3_databaseOf σ (nI i) = d) && decide ((yL σ (nI i)).toInt < (yL σ s).toInt)) = decide (ya_sg σ 11 (nI i) ≠ -1 ∧ sD σ (nI i) = d ∧ (yL σ (nI i)).toInt < (yL σ s).toInt) := by
      rw [Bool.eq_iff_iff, Bool.and_eq_true, decide_eq_true_eq, decide_eq_true_eq, decide_eq_true_eq]
      exact ⟨fun ⟨a, b⟩ => ⟨yl_d1 hd a, a, b⟩, fun ⟨a, b, c⟩ => ⟨b, c⟩⟩
    rw [e]
  have e : ya_cw (fun i => decide (ya_sg σ 11 (nI i) ≠ -1 ∧ sD σ (nI i) = d ∧ (yL σ (nI i)).toInt < (yL σ s).toInt)) (i + 1) = ya_cw (fun i => decide (ya_sg σ 11 (nI i) ≠ -1 ∧ sD σ (nI i) = d ∧ (yL σ (nI i)).toInt < (yL σ s).toInt)) i + (if decide (ya_sg σ 11 (nI i) ≠ -1 ∧ sD σ (nI i) = d ∧ (yL σ (nI i)).toInt < (yL σ s).toInt) then 1 else 0) := rfl
  rw [e]
  cases hq : decide (ya_sg σ 11 (nI i) ≠ -1 ∧ sD σ (nI i) = d ∧ (yL σ (nI i)).toInt < (yL σ s).toInt) with
  | true => exact es_Q (es_It (hT.trans (by rw [hq])) (es_In1 rfl (es_In1 rfl rfl)))
  | false => exact es_Q (es_If (hT.trans (by rw [hq])) (es_N (es_In1 rfl rfl)))
theorem yt_X5_rowAnew (I : yn_I t σ) (d p : Int32) : sf_X5_rowAnew [.ref 0, .int d, .int p] σ = if ya_X5_isPlace σ d p then some (.inl (some (.int (ya_X3_signOf σ (ya_at σ d p)))), σ) else some (.inr 1, σ) := by
  have W := yn_Wo I
  refine ee_meth ?_ rfl
  unfold sm_X5_rowAnew
  refine es_Q (es_need (ee_aI (ee_M (ee_aR (ee_R rfl) (ee_aI (ee_L rfl) (ee_aI (ee_L rfl) ee_aN))) (ee_cv (yt_X5_isPlace W d p) rfl)) ee_aN) (ee_cs (yt_X5_needIndex σ _) rfl) (fun hx => ?_))
  obtain ⟨hd, hp⟩ := yg_place hx
  obtain ⟨h1, h2, h3⟩ := yg_at I hd hp
  have hin := yl_in h1
  have e0 : ya_at σ d p = nI (ya_at σ d p).toNatClampNeg := yi_nat (yi_pos.mpr hin.1)
  have hlt : (ya_at σ d p).toNatClampNeg < 60 := by rw [yi_clampInt]; omega
  refine es_Q (es_B (es_Q (es_SI ee_K0 ?_)))
  have hP : ∀ i, i < 60 → (∀ v, sy_sI (sy_cA (sy_ceq (sy_iM (sy_cv 3 1 sf_X3_databaseOf) (sy_aR (sy_rF 5 1 (sy_rL 0)) (sy_aI (sy_iL 3) sy_aN))) (sy_iL 1)) (sy_ceq (sy_iM (sy_cv 5 2 sf_X5_comparedAhead) (sy_aR (sy_rL 0) (sy_aI (sy_iL 1) (sy_aI (sy_iL 3) sy_aN)))) (sy_iL 2))) (sy_eI (sy_iM (sy_cv 3 1 sf_X3_signOf) (sy_aR (sy_rF 5 1 (sy_rL 0)) (sy_aI (sy_iL 3) sy_aN)))) sy_sN [.ref 0, .int d, .int p, .int (nI i)] v σ = if decide (i = (ya_at σ d p).toNatClampNeg) then some (.inl (some (.int (ya_X3_signOf σ (nI i)))), σ) else v [.ref 0, .int d, .int p, .int (nI i)] σ) := fun i hi v => by
    have hT := (ee_cA (ee_cB (ee_M (ee_aR (ee_rF (ee_R rfl) rfl) (ee_aI (ee_L rfl) ee_aN)) (ee_cv (yt_X3_databaseOf W _) rfl)) (ee_L rfl)) (fun h0 => ee_cB (ee_M (ee_aR (ee_R rfl) (ee_aI (ee_L rfl) (ee_aI (ee_L rfl) ee_aN))) (ee_cv (yt_X5_comparedAhead I hd (yl_d1 hd (of_decide_eq_true h0)) (of_decide_eq_true h0)) rfl)) (ee_L rfl)) : (sy_cA (sy_ceq (sy_iM (sy_cv 3 1 sf_X3_databaseOf) (sy_aR (sy_rF 5 1 (sy_rL 0)) (sy_aI (sy_iL 3) sy_aN))) (sy_iL 1)) (sy_ceq (sy_iM (sy_cv 5 2 sf_X5_comparedAhead) (sy_aR (sy_rL 0) (sy_aI (sy_iL 1) (sy_aI (sy_iL 3) sy_aN)))) (sy_iL 2))) [.ref 0, .int d, .int p, .int (nI i)] σ = some (.inl (decide (ya_X3_databaseOf σ (nI i) = d) && decide (yL σ (nI i) = p)), σ))
    have e : (decide (ya_X3_databaseOf σ (nI i) = d) && decide (yL σ (nI i) = p)) = decide (i = (ya_at σ d p).toNatClampNeg) := by
      rw [Bool.eq_iff_iff, Bool.and_eq_true, decide_eq_true_eq, decide_eq_true_eq, decide_eq_true_eq]
      constructor
      · rintro ⟨a, b⟩
        have : nI i = ya_at σ d p := yl_same I (yl_d1 hd a) h1 (a.trans h2.symm) (by rw [h3, b])
        rw [← this, nI_clamp (by omega)]
      · rintro rfl
        rw [← e0]
        exact ⟨h2, h3⟩
    rw [e] at hT
    cases hq : decide (i = (ya_at σ d p).toNatClampNeg) with
    | true =>
      rw [if_pos rfl]
      exact es_It (hT.trans (by rw [hq])) (es_eI (ee_M (ee_aR (ee_rF (ee_R rfl) rfl) (ee_aI (ee_L rfl) ee_aN)) (ee_cv (yt_X3_signOf W _) rfl)))
    | false =>
      rw [if_neg (show ¬ (false = true) by decide)]
      exact es_If (hT.trans (by rw [hq])) rfl
  refine (es_forP (E := fun i => [.ref 0, .int d, .int p, .int (nI i)]) (P := fun i => decide (i = (ya_at σ d p).toNatClampNeg)) (R := fun i => ya_X3_signOf σ (nI i)) (v := -1) (n := 60) (a := 0) (m := 1000) (by omega) (fun i _ hi => (es_c60 rfl (by omega)).trans (by rw [decide_eq_true (by omega)])) ((es_c60 rfl (by omega)).trans (by rw [decide_eq_false (by omega)])) (fun i _ hi k' => ?_) (fun hn => ?_)).trans ?_
  · refine es_Q ((hP i (by omega) _).trans ?_)
    cases decide (i = (ya_at σ d p).toNatClampNeg)
    · rw [if_neg (show ¬ (false = true) by decide), if_neg (show ¬ (false = true) by decide)]
      exact es_In1 (i := i) rfl rfl
    · rfl
  · have := ya_ff_none.mp hn (ya_at σ d p).toNatClampNeg (by omega) (by omega)
    exact absurd rfl (of_decide_eq_false this)
  · have hf : ya_ff (fun i => decide (i = (ya_at σ d p).toNatClampNeg)) 60 0 = some (ya_at σ d p).toNatClampNeg := ya_ff_some.mpr ⟨by omega, by omega, decide_eq_true rfl, fun j _ hj => decide_eq_false (by omega)⟩
    rw [hf]
    show some (Sum.inl (some (Value.int (ya_X3_signOf σ (nI _)))), σ) = _
    rw [← e0]
end YWf
