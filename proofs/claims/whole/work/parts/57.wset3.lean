section YW6
variable {σ τ A : sy_Mem} {t : Nat}
-- condition
def ya_cond (σ : sy_Mem) (l q : Nat) (o f c x : Int32) : sy_Mem := sy_up (sy_up (sy_up (sy_up (sy_up σ 23 (3 * l + q) o) 24 (3 * l + q) f) 25 (3 * l + q) c) 26 (3 * l + q) x) 22 l (nI (q + 1))
/-- whether the last argument can have one more -/
def ya_more (σ : sy_Mem) : Bool := decide (0 ≤ σ 19 0 - 1) && decide (ya_ag σ 22 0 (σ 19 0 - 1) < 3)
theorem yg_more (I : yn_I t σ) (h : ya_more σ = true) : ∃ l q : Nat, l < 4 ∧ q < 3 ∧ σ 19 0 = nI (l + 1) ∧ σ 19 0 - 1 = nI l ∧ σ 22 l = nI q ∧ ya_ag σ 22 0 (nI l) = nI q := by
  have h19 := yg_n19 I
  unfold ya_more at h
  rw [Bool.and_eq_true, yl_ge, yl_lt, yl_c0, yl_c3] at h
  rw [yl_sub (x := σ 19 0) (y := 1) (by omega) (by omega) (by decide) (by decide), yl_c1] at h
  obtain ⟨l, hl⟩ : ∃ l, (σ 19 0).toNatClampNeg = l + 1 := ⟨(σ 19 0).toNatClampNeg - 1, by omega⟩
  have e1 : σ 19 0 = nI (l + 1) := by rw [yg_n19e I, hl]
  have e2 : σ 19 0 - 1 = nI l := by rw [e1, nI_pred]
  have e3 : ya_ag σ 22 0 (nI l) = σ 22 l := by rw [ya_ag_in (yl_An (by omega) (by omega)), nI_clamp (by omega)]
  have hc := (I.2.2.2.2.2.2.2.1 l (by omega)).2.2.1
  rw [e2, e3] at h
  have e4 : σ 22 l = nI (σ 22 l).toNatClampNeg := yi_nat (yi_pos.mpr hc.1)
  exact ⟨l, (σ 22 l).toNatClampNeg, by omega, by rw [yi_clampInt]; omega, e1, e2, e4, e3.trans e4⟩
theorem yt_X0_addCondition (σ : sy_Mem) (o : Bool) (f c x : Int32) {l q : Nat} (hl : l < 4) (hq : q < 3) (h19 : σ 19 0 = nI (l + 1)) (h22 : σ 22 l = nI q) : sf_X0_addCondition [.ref 19, .int (ya_b o), .int f, .int c, .int x] σ = some (.inl (some (.int (nI (q + 1)))), ya_cond σ l q (ya_b o) f c x) := by
  refine ee_meth ?_ rfl
  unfold sm_X0_addCondition ya_cond
  have e1 := yl_ix (x := nI l) (y := nI q) (c := 3) (n := 4) (m := 3) yl_c3 (by rw [nI_toInt (by omega)]; omega) (by rw [nI_toInt (by omega)]; omega) (by omega) (by rw [nI_toInt (by omega)]; omega) (by rw [nI_toInt (by omega)]; omega)
  have e2 := e1.2.1
  rw [nI_clamp (by omega), nI_clamp (by omega)] at e2
  have hi4 := yi_inbN (n := 4) hl (show l < 2 ^ 31 by omega)
  have hA : ya_isA σ (nI l) = true := by rw [yl_isA, h19, nI_toInt (by omega), nI_toInt (by omega)]; omega
  have hlast : sy_iSub (sy_iF 0 0 (sy_rL 0)) (sy_iK 1) [.ref 19, .int (ya_b o), .int f, .int c, .int x] σ = some (.inl (nI l), σ) := (ee_B (ee_F (ee_R rfl) rfl) ee_K).trans (by rw [h19, nI_pred])
  refine es_Q (es_SI hlast ?_)
  have hcn : ∀ {ρ : sy_Mem} {env : List Value}, ρ 22 l = nI q → env[0]? = some (.ref 19) → env[5]? = some (.int (nI l)) → sy_iA 0 (sy_rF 0 3 (sy_rL 0)) (sy_iL 5) env ρ = some (.inl (nI q), ρ) := fun {ρ env} h h0 h5 => by rw [ee_An (kd := 0) (ee_rF (ee_R h0) rfl) (ee_L h5) (show l < sy_len 0 22 from hl) (by decide), h]
  have hc : sy_cO (sy_cN (sy_cI (sy_iM (sy_cv 0 1 sf_X0_isListed) (sy_aR (sy_rL 0) (sy_aI (sy_iL 5) sy_aN))))) (sy_cge (sy_iA 0 (sy_rF 0 3 (sy_rL 0)) (sy_iL 5)) (sy_iK 3)) [.ref 19, .int (ya_b o), .int f, .int c, .int x, .int (nI l)] σ = some (.inl false, σ) := by
    refine (ee_cO (ee_cN (ee_cb (ee_M (ee_aR (ee_R rfl) (ee_aI (ee_L rfl) ee_aN)) (ee_cv (yt_X0_isListed σ (nI l)) rfl)))) (fun _ => ee_cB (hcn h22 rfl rfl) ee_K)).trans ?_
    rw [hA, show decide ((3 : Int32) ≤ nI q) = false by
      rw [decide_eq_false_iff_not, Int32.le_iff_toInt_le, nI_toInt (by omega), yl_c3]; omega]
    rfl
  refine es_Q (es_If hc (es_N ?_))
  refine es_Q (es_SI (ee_B (ee_B (ee_L rfl) ee_K) (hcn h22 rfl rfl)) ?_)
  refine es_Q (es_WZ (ee_rF (ee_R rfl) rfl) (ee_L rfl) (ee_L rfl) (ya_b01 o) e1.2.2 ?_)
  refine es_Q (es_W (ee_rF (ee_R rfl) rfl) (ee_L rfl) (ee_L rfl) e1.2.2 ?_)
  refine es_Q (es_W (ee_rF (ee_R rfl) rfl) (ee_L rfl) (ee_L rfl) e1.2.2 ?_)
  refine es_Q (es_W (ee_rF (ee_R rfl) rfl) (ee_L rfl) (ee_L rfl) e1.2.2 ?_)
  rw [e2]
  refine es_Q (es_A (ee_rF (ee_R rfl) rfl) (ee_L rfl) ee_K hi4 ?_)
  rw [nI_clamp (by omega)]
  have h22' : sy_up (sy_up (sy_up (sy_up σ 23 (3 * l + q) (ya_b o)) 24 (3 * l + q) f) 25 (3 * l + q) c) 26 (3 * l + q) x 22 l = nI q := by
    rw [yu_ne (by decide), yu_ne (by decide), yu_ne (by decide), yu_ne (by decide), h22]
  refine (es_eI (k := fun _ => sy_fail) (ee_An (kd := 0) (ee_rF (ee_R rfl) rfl) (ee_L rfl) (show l < sy_len 0 22 from hl) (by decide))).trans ?_
  rw [yu_at]
  show some (Sum.inl (some (Value.int (sy_up (sy_up (sy_up (sy_up σ 23 (3 * l + q) (ya_b o)) 24 (3 * l + q) f) 25 (3 * l + q) c) 26 (3 * l + q) x 22 l + 1))), sy_up _ 22 l (sy_up (sy_up (sy_up (sy_up σ 23 (3 * l + q) (ya_b o)) 24 (3 * l + q) f) 25 (3 * l + q) c) 26 (3 * l + q) x 22 l + 1)) = _
  rw [h22', nI_1]
/-- the model's cells then -/
def ym_cond (τ : sy_Mem) (l q : Nat) (o f c x : Int32) : sy_Mem := sy_up (sy_up (sy_up (sy_up (sy_up τ 70 (3 * l + q) o) 71 (3 * l + q) f) 72 (3 * l + q) c) 73 (3 * l + q) x) 69 l (nI (q + 1))
/-- what the last argument then has -/
def ya_condR (σ : sy_Mem) (o f c x : Int32) : Int32 × sy_Mem := (ya_ag σ 22 0 (σ 19 0 - 1) + 1, ya_cond σ (σ 19 0 - 1).toNatClampNeg (ya_ag σ 22 0 (σ 19 0 - 1)).toNatClampNeg o f c x)
theorem yt_X5_condition (I : yn_I t σ) (o : Bool) (f c x : Int32) : sf_X5_condition [.ref 0, .int (ya_b o), .int f, .int c, .int x] σ = if (decide (0 ≤ f) && decide (f < 3)) then (if ((decide (0 ≤ c) && decide (c < 6)) && (decide (0 ≤ x) && decide (x < 1000))) then (if ya_more σ then some (.inl (some (.int (ya_condR σ (ya_b o) f c x).1)), (ya_condR σ (ya_b o) f c x).2) else some (.inr 3, σ)) else some (.inr 2, σ)) else some (.inr 1, σ) := by
  refine ee_meth ?_ rfl
  unfold sm_X5_condition
  refine es_Q (es_need (ee_aI (ee_M (ee_aI (ee_L rfl) (ee_aI ee_K ee_aN)) (ee_cs (yt_X5_isIn σ f 3) rfl)) ee_aN) (ee_cs (yt_X5_needIndex σ _) rfl) (fun _ => ?_))
  refine es_Q (es_need (ee_aI (ee_iC (ee_cA (ee_cb (ee_M (ee_aI (ee_L rfl) (ee_aI ee_K ee_aN)) (ee_cs (yt_X5_isIn σ c 6) rfl))) (fun _ => ee_cb (ee_M (ee_aI (ee_L rfl) (ee_aI ee_K ee_aN)) (ee_cs (yt_X5_isIn σ x 1000) rfl))))) ee_aN) (ee_cs (yt_X5_needRange σ _) rfl) (fun _ => ?_))
  refine es_Q (es_SI (ee_B (ee_M (ee_aR (ee_rF (ee_R rfl) rfl) ee_aN) (ee_cv (yt_X0_size σ) rfl)) ee_K) ?_)
  refine es_Q (es_need (x := ya_more σ) (ee_aI (ee_iC (ee_cA (ee_cB (ee_L rfl) ee_K) (fun _ => ee_cB (ee_M (ee_aR (ee_rF (ee_R rfl) rfl) (ee_aI (ee_L rfl) ee_aN)) (ee_cv (yt_X0_conditionsOf σ _) rfl)) ee_K))) ee_aN) (ee_cs (yt_X5_needState σ _) rfl) (fun h => ?_))
  obtain ⟨l, q, hl, hq, h19, hm, h22, hag⟩ := yg_more I h
  have e : ya_condR σ (ya_b o) f c x = (nI (q + 1), ya_cond σ l q (ya_b o) f c x) := by
    unfold ya_condR
    rw [hm, hag, nI_clamp (by omega), nI_clamp (by omega), nI_1]
  rw [e]
  exact es_eI (ee_M (ee_aR (ee_rF (ee_R rfl) rfl) (ee_aI (ee_L rfl) (ee_aI (ee_L rfl) (ee_aI (ee_L rfl) (ee_aI (ee_L rfl) ee_aN))))) (ee_cv (yt_X0_addCondition σ o f c x hl hq h19 h22) rfl))
theorem yw_ok_condition (H : yw_R t σ) (o : Bool) (f c x : Int32) : yw_OK t σ 3 sf_X5_condition sf_X6_condition [.int (ya_b o), .int f, .int c, .int x] := by
  have I := H.1
  have h19 := yg_n19 I
  refine yw_writer H (nc := 3) ⟨by decide, fun _ _ => by decide, fun _ _ _ => by decide⟩ (yt_X5_condition I o f c x) (fun h1 h2 h3 => ?_) (fun τ M => ?_)
  · obtain ⟨l, q, hl, hq, e19, hm, h22, hag⟩ := yg_more I h3
    have e : ya_condR σ (ya_b o) f c x = (nI (q + 1), ya_cond σ l q (ya_b o) f c x) := by
      unfold ya_condR
      rw [hm, hag, nI_clamp (by omega), nI_clamp (by omega), nI_1]
    rw [e]
    dsimp only
    have hk : ∀ k, k < 22 ∨ 26 < k → ya_cond σ l q (ya_b o) f c x k = σ k := fun k h => by
      unfold ya_cond
      rw [yu_ne (by omega), yu_ne (by omega), yu_ne (by omega), yu_ne (by omega), yu_ne (by omega)]
    refine ⟨yn_I_up (yn_I_n I (fun k h => hk k (by omega)) (fun k h1 h2 => hk k (by omega)) ?_), fun k h1 _ => hk k (by omega)⟩
    obtain ⟨a1, a2, a3, a4, a5⟩ := I.2.2.2.2.2.2
    have k22 : ∀ i, ya_cond σ l q (ya_b o) f c x 22 i = if i = l then nI (q + 1) else σ 22 i := fun i => by
      unfold ya_cond
      by_cases e : i = l
      · rw [e, yu_at, if_pos rfl]
      · rw [yu_an e, if_neg e, yu_ne (by decide), yu_ne (by decide), yu_ne (by decide), yu_ne (by decide)]
    have k23 : ∀ i, ya_cond σ l q (ya_b o) f c x 23 i = if i = 3 * l + q then ya_b o else σ 23 i := fun i => by
      unfold ya_cond
      rw [yu_ne (k := 22) (by decide), yu_ne (k := 26) (by decide), yu_ne (k := 25) (by decide), yu_ne (k := 24) (by decide)]
      by_cases e : i = 3 * l + q
      · rw [e, yu_at, if_pos rfl]
      · rw [yu_an e, if_neg e]
    have k24 : ∀ i, ya_cond σ l q (ya_b o) f c x 24 i = if i = 3 * l + q then f else σ 24 i := fun i => by
      unfold ya_cond
      rw [yu_ne (k := 22) (by decide), yu_ne (k := 26) (by decide), yu_ne (k := 25) (by decide)]
      by_cases e : i = 3 * l + q
      · rw [e, yu_at, if_pos rfl]
      · rw [yu_an e, if_neg e, yu_ne (by decide)]
    have e1 : ya_isT (ya_cond σ l q (ya_b o) f c x) = ya_isT σ := funext fun s => ya_isT_c (hk 1 (by decide)) s
    have hl4 : (σ 19 0).toInt = l + 1 := by rw [e19, nI_toInt (by omega)]; omega
    have hc22 : (σ 22 l).toInt = q := by rw [h22, nI_toInt (by omega)]
    refine ⟨by rw [hk 19 (by decide)]; exact a1, fun i hi => ?_, by rw [hk 31 (by decide)]; exact a3, by rw [hk 27 (by decide)]; exact a4, by rw [hk 27 (by decide)]; exact a5⟩
    rw [hk 19 (by decide)] at hi
    obtain ⟨b1, b2, b3, b4⟩ := a2 i hi
    rw [hk 20 (by decide), hk 21 (by decide), e1, k22]
    refine ⟨b1, b2, ?_, ?_⟩
    · by_cases e : i = l
      · rw [if_pos e, nI_toInt (by omega)]; omega
      · rw [if_neg e]; exact b3
    · intro j hj
      rw [k23, k24]
      have hf := yl_isD.mp h1
      by_cases e : i = l
      · subst e
        rw [if_pos rfl, nI_toInt (by omega)] at hj
        by_cases ej : j = q
        · rw [ej, if_pos rfl, if_pos rfl]
          exact ⟨ya_b01 o, hf⟩
        · rw [if_neg (by omega), if_neg (by omega)]
          exact b4 j (by omega)
      · rw [if_neg e] at hj
        rw [if_neg (by omega), if_neg (by omega)]
        exact b4 j hj
  · have h0 : decide (0 < σ 19 0) = decide (0 ≤ σ 19 0 - 1) := by
      rw [decide_eq_decide, Int32.lt_iff_toInt_lt, Int32.le_iff_toInt_le, yl_sub (by omega) (by omega) (by decide) (by decide), yl_c0, yl_c1]
      omega
    have hg : (sy_aR (sy_rL 0) (sy_aI (sy_iM (sy_cs 3 sf_X6_in) (sy_aI (sy_iL 2) (sy_aI (sy_iK 0) (sy_aI (sy_iK 2) sy_aN)))) (sy_aI (sy_iL 5) (sy_aI (sy_iC (sy_cA (sy_cgt (sy_iF 6 24 (sy_rL 0)) (sy_iK 0)) (sy_clt (sy_iA 0 (sy_rF 6 27 (sy_rL 0)) (sy_iQ (sy_cgt (sy_iF 6 24 (sy_rL 0)) (sy_iK 0)) (sy_iSub (sy_iF 6 24 (sy_rL 0)) (sy_iK 1)) (sy_iK 0))) (sy_iK 3)))) sy_aN)))) [.ref 44, .int (ya_b o), .int f, .int c, .int x, .int (ya_b ((decide (0 ≤ c) && decide (c < 6)) && (decide (0 ≤ x) && decide (x < 1000))))] τ = some (.inl [.ref 44, .int (ya_b (decide (0 ≤ f) && decide (f < 3))), .int (ya_b ((decide (0 ≤ c) && decide (c < 6)) && (decide (0 ≤ x) && decide (x < 1000)))), .int (ya_b (ya_more σ))], τ) := by
      rw [← yl_le1 (x := f) (n := 2) (m := 3) rfl]
      refine ee_aR (ee_R rfl) (ee_aI (ee_M (ee_aI (ee_L rfl) (ee_aI ee_K (ee_aI ee_K ee_aN))) (ee_cs (ym_in τ f 0 2) rfl)) (ee_aI (ee_L rfl) (ee_aI (ee_iC ?_) ee_aN)))
      unfold ya_more
      rw [← h0]
      refine ee_cA (ee_cB (em_F24 M (ee_R rfl)) ee_K) (fun h => ee_cB ?_ ee_K)
      have hp : 0 < (σ 19 0).toInt := by rw [yl_lt, yl_c0] at h; exact h
      obtain ⟨l, hl⟩ : ∃ l, (σ 19 0).toNatClampNeg = l + 1 := ⟨(σ 19 0).toNatClampNeg - 1, by omega⟩
      have e2 : σ 19 0 - 1 = nI l := by rw [yg_n19e I, hl, nI_pred]
      rw [e2]
      refine em_69 M I (ee_rF (ee_R rfl) rfl) ((ee_iQ (ee_cB (em_F24 M (ee_R rfl)) ee_K) (fun _ => ee_B (em_F24 M (ee_R rfl)) ee_K) (fun _ => ee_K)).trans ?_) (by omega)
      rw [h, if_pos rfl, e2]
    have hcan : sy_iC (sy_cA (sy_cI (sy_iM (sy_cs 3 sf_X6_in) (sy_aI (sy_iL 3) (sy_aI (sy_iK 0) (sy_aI (sy_iK 5) sy_aN))))) (sy_cI (sy_iM (sy_cs 1 sf_X6_isNumber) (sy_aI (sy_iL 4) sy_aN)))) [.ref 44, .int (ya_b o), .int f, .int c, .int x] τ = some (.inl (ya_b ((decide (0 ≤ c) && decide (c < 6)) && (decide (0 ≤ x) && decide (x < 1000)))), τ) := by
      rw [← yl_le1 (x := c) (n := 5) (m := 6) rfl]
      exact ee_iC (ee_cA (ee_cb (ee_M (ee_aI (ee_L rfl) (ee_aI ee_K (ee_aI ee_K ee_aN))) (ee_cs (ym_in τ c 0 5) rfl))) (fun _ => ee_cb (ee_M (ee_aI (ee_L rfl) ee_aN) (ee_cs (ym_isNumber τ x) rfl))))
    refine ⟨fun h1 h2 h3 => ?_, fun h => ⟨0, ?_⟩⟩
    · obtain ⟨l, q, hl, hq, e19, hm, h22, hag⟩ := yg_more I h3
      have e : ya_condR σ (ya_b o) f c x = (nI (q + 1), ya_cond σ l q (ya_b o) f c x) := by
        unfold ya_condR
        rw [hm, hag, nI_clamp (by omega), nI_clamp (by omega), nI_1]
      rw [e]
      dsimp only
      have M' := yr_M_44 M (i := 36) (x := 0) ⟨by decide, by decide⟩
      have hj : ∀ k, k < 69 ∨ 73 < k → ym_cond (sy_up τ 44 36 0) l q (ya_b o) f c x k = sy_up τ 44 36 0 k := fun k h => by
        unfold ym_cond
        rw [yu_ne (by omega), yu_ne (by omega), yu_ne (by omega), yu_ne (by omega), yu_ne (by omega)]
      have hk : ∀ k, k < 22 ∨ 26 < k → ya_cond σ l q (ya_b o) f c x k = σ k := fun k h => by
        unfold ya_cond
        rw [yu_ne (by omega), yu_ne (by omega), yu_ne (by omega), yu_ne (by omega), yu_ne (by omega)]
      refine ⟨ym_cond (sy_up τ 44 36 0) l q (ya_b o) f c x, ?_, ?_, fun k hk => by rw [hj k (by omega), yu_ne (by omega)], by rw [hj 44 (by decide), yu_at]⟩
      · refine ee_meth ?_ rfl
        unfold sm_X6_condition ym_cond
        refine es_Q (es_SI hcan (es_Q ((es_goes hg).trans ?_)))
        rw [h1, h2, h3, if_pos (show ((true && true) && true) = true from rfl)]
        have e1 := yl_ix (x := nI l) (y := nI q) (c := 3) (n := 4) (m := 3) yl_c3 (by rw [nI_toInt (by omega)]; omega) (by rw [nI_toInt (by omega)]; omega) (by omega) (by rw [nI_toInt (by omega)]; omega) (by rw [nI_toInt (by omega)]; omega)
        rw [Int32.mul_comm] at e1
        have e2 := e1.2.1
        rw [nI_clamp (by omega), nI_clamp (by omega)] at e2
        have hi4 := yi_inbN (n := 4) hl (show l < 2 ^ 31 by omega)
        have hq0 : sy_up τ 44 36 0 44 24 = σ 19 0 := M'.2.2.2.1
        have hq69 : sy_up τ 44 36 0 69 = σ 22 := M'.2.2.2.2.2.2.1
        have hF : ∀ {ρ : sy_Mem} {env : List Value}, ρ 44 24 = σ 19 0 → env[0]? = some (.ref 44) → sy_iSub (sy_iF 6 24 (sy_rL 0)) (sy_iK 1) env ρ = some (.inl (nI l), ρ) := fun {ρ env} h h0 => (ee_B (ee_F (ee_R h0) rfl) ee_K).trans (by rw [h, hm])
        refine es_Q (es_SI (x := 3 * nI l + nI q) (σ1 := sy_up τ 44 36 0) ((ee_B (ee_B ee_K (hF hq0 rfl)) (ee_An (kd := 0) (ee_rF (ee_R rfl) rfl) (hF hq0 rfl) (show l < sy_len 0 69 from hl) (by decide))).trans (by rw [hq69, h22])) ?_)
        refine es_Q (es_WZ (ee_rF (ee_R rfl) rfl) (ee_L rfl) (ee_L rfl) (ya_b01 o) e1.2.2 ?_)
        refine es_Q (es_W (ee_rF (ee_R rfl) rfl) (ee_L rfl) (ee_L rfl) e1.2.2 ?_)
        refine es_Q (es_W (ee_rF (ee_R rfl) rfl) (ee_L rfl) (ee_L rfl) e1.2.2 ?_)
        refine es_Q (es_W (ee_rF (ee_R rfl) rfl) (ee_L rfl) (ee_L rfl) e1.2.2 ?_)
        rw [e2]
        have hz : ∀ {ρ : sy_Mem}, ρ = sy_up (sy_up (sy_up (sy_up (sy_up τ 44 36 0) 70 (3 * l + q) (ya_b o)) 71 (3 * l + q) f) 72 (3 * l + q) c) 73 (3 * l + q) x → ρ 44 24 = σ 19 0 ∧ ρ 69 l = nI q := fun {ρ} h => by
          subst h
          refine ⟨?_, ?_⟩
          · rw [yu_ne (k := 73) (by decide), yu_ne (k := 72) (by decide), yu_ne (k := 71) (by decide), yu_ne (k := 70) (by decide)]; exact hq0
          · rw [yu_ne (k := 73) (by decide), yu_ne (k := 72) (by decide), yu_ne (k := 71) (by decide), yu_ne (k := 70) (by decide), hq69, h22]
        obtain ⟨z1, z2⟩ := hz rfl
        refine es_Q (es_A (ee_rF (ee_R rfl) rfl) (hF z1 rfl) ee_K hi4 ?_)
        rw [nI_clamp (by omega), show ∀ ρ : sy_Mem, ρ = sy_up (sy_up (sy_up (sy_up (sy_up τ 44 36 0) 70 (3 * l + q) (ya_b o)) 71 (3 * l + q) f) 72 (3 * l + q) c) 73 (3 * l + q) x → ρ (74 - 5) l + 1 = nI (q + 1) from fun ρ h => by rw [(hz h).2, nI_1]]
        · refine (es_eI (k := fun _ => sy_fail) (ee_An (kd := 0) (ee_rF (ee_R rfl) rfl) (hF (by rw [yu_ne (by decide)]; exact z1) rfl) (show l < sy_len 0 69 from hl) (by decide))).trans ?_
          rw [yu_at]
        · rfl
      · obtain ⟨mS, mG, mV, a0, a1, a2, a3, a4, a5, a6, a7, a8⟩ := M'
        refine ⟨yr_S_c mS (fun k h => hk k (by omega)) (congrFun (hj 44 (by decide)) 0) (fun k h1 h2 => hj k (by omega)), yr_G_c mG (fun k h => hk k (by omega)) (fun k h1 h2 => hj k (by omega)), yr_V_n mV (fun k h1 h2 => hk k (by omega)) (fun k h1 h2 => hj k (by omega)), ?_⟩
        refine ⟨by rw [hj 44 (by decide), hk 19 (by decide)]; exact a0, by rw [hj 67 (by decide), hk 20 (by decide)]; exact a1, by rw [hj 68 (by decide), hk 21 (by decide)]; exact a2, ?_, ?_, ?_, ?_, ?_, by rw [hj 74 (by decide), hk 31 (by decide)]; exact a8⟩
        · unfold ym_cond ya_cond
          rw [yu_eq, yu_eq, yu_ne (k := 73) (by decide), yu_ne (k := 72) (by decide), yu_ne (k := 71) (by decide), yu_ne (k := 70) (by decide), yu_ne (k := 26) (by decide), yu_ne (k := 25) (by decide), yu_ne (k := 24) (by decide), yu_ne (k := 23) (by decide), a3]
        · unfold ym_cond ya_cond
          rw [yu_ne (k := 69) (by decide), yu_ne (k := 73) (by decide), yu_ne (k := 72) (by decide), yu_ne (k := 71) (by decide), yu_eq, yu_ne (k := 22) (by decide), yu_ne (k := 26) (by decide), yu_ne (k := 25) (by decide), yu_ne (k := 24) (by decide), yu_eq, a4]
        · unfold ym_cond ya_cond
          rw [yu_ne (k := 69) (by decide), yu_ne (k := 73) (by decide), yu_ne (k := 72) (by decide), yu_eq, yu_ne (k := 70) (by decide), yu_ne (k := 22) (by decide), yu_ne (k := 26) (by decide), yu_ne (k := 25) (by decide), yu_eq, yu_ne (k := 23) (by decide), a5]
        · unfold ym_cond ya_cond
          rw [yu_ne (k := 69) (by decide), yu_ne (k := 73) (by decide), yu_eq, yu_ne (k := 71) (by decide), yu_ne (k := 70) (by decide), yu_ne (k := 22) (by decide), yu_ne (k := 26) (by decide), yu_eq, yu_ne (k := 24) (by decide), yu_ne (k := 23) (by decide), a6]
        · unfold ym_cond ya_cond
          rw [yu_ne (k := 69) (by decide), yu_eq, yu_ne (k := 72) (by decide), yu_ne (k := 71) (by decide), yu_ne (k := 70) (by decide), yu_ne (k := 22) (by decide), yu_eq, yu_ne (k := 25) (by decide), yu_ne (k := 24) (by decide), yu_ne (k := 23) (by decide), a7]
    · refine ee_meth ?_ rfl
      unfold sm_X6_condition
      refine es_Q (es_SI hcan (es_Q ((es_goes hg).trans ?_)))
      rw [if_neg (by rw [h]; decide)]
end YW6
