/-! pure readers of the component: functions of the memory and their rows; printed by wip/whole/gen/gen38.py -/
section YR
theorem yl_size {σ : sy_Mem} (W : ya_W σ) : (σ 19 0).toNatClampNeg ≤ 900 := by
  rw [yi_clampInt]; have := W.2.1; omega
theorem yl_types {σ : sy_Mem} (W : ya_W σ) : (σ 1 0).toNatClampNeg ≤ 900 := by
  rw [yi_clampInt]; have := W.1; omega
theorem yl_hold {σ : sy_Mem} (W : ya_W σ) {v : Nat} (hv : v < 4) : (σ (sy_vw v) 6).toNatClampNeg ≤ 900 := by
  rw [yi_clampInt]; have := (W.2.2.2.2 v hv).1; omega
theorem yl_v4 {σ : sy_Mem} (W : ya_W σ) {v : Nat} (hv : v < 4) : σ (sy_vw v) 4 = 0 ∨ σ (sy_vw v) 4 = 1 := (W.2.2.2.2 v hv).2.1
theorem yl_nI {a : Nat} (h : a ≤ 900) : (nI a).toNatClampNeg ≤ 900 := by rw [nI_clamp (by omega)]; exact h

def ya_X2_isRootType (σ : sy_Mem) (t : Int32) : Bool := ya_isT σ t && decide (σ 3 t.toNatClampNeg = -1)
theorem yt_X2_isRootType {σ : sy_Mem} (W : ya_W σ) (t : Int32) : sf_X2_isRootType [.ref 1, .int t] σ = some (.inl (some (.int (ya_b (ya_X2_isRootType σ t)))), σ) := by
  refine ee_meth ?_ rfl
  unfold sm_X2_isRootType ya_X2_isRootType
  exact es_eZb (ee_iC (ee_cA (ee_cb (ee_M (ee_aR (ee_R rfl) (ee_aI (ee_L rfl) ee_aN)) (ee_cv (yt_X2_isType σ t) rfl))) (fun h => ee_cB (ee_A (ee_rF (ee_R rfl) rfl) (ee_L rfl) (yl_isTi W h rfl)) ee_K)))
def ya_X3_isDoomed (σ : sy_Mem) (s : Int32) : Bool := (decide (0 ≤ s) && decide (s < 60)) && !decide (σ 18 s.toNatClampNeg = 0)
theorem yt_X3_isDoomed {σ : sy_Mem} (W : ya_W σ) (s : Int32) : sf_X3_isDoomed [.ref 10, .int s] σ = some (.inl (some (.int (ya_b (ya_X3_isDoomed σ s)))), σ) := by
  refine ee_meth ?_ rfl
  unfold sm_X3_isDoomed ya_X3_isDoomed
  exact es_eZb (ee_iC (ee_cA (ee_cb (ee_M (ee_aI (ee_L rfl) ee_aN) (ee_cs (yt_X3_isNumber σ s) rfl))) (fun h => ee_cI (ee_A (ee_rF (ee_R rfl) rfl) (ee_L rfl) (yi_inb.mpr (yl_isS.mp h))))))
def ya_X3_rootOf (σ : sy_Mem) (t key : Int32) : Int32 := if t = -1 then -1 else (ya_ff (fun i => decide (σ 11 i = t) && decide (ya_N σ (nI i) 0 = key)) 60 0).elim (-1) (fun i => nI i)
theorem yt_X3_rootOf {σ : sy_Mem} (W : ya_W σ) (t key : Int32) : sf_X3_rootOf [.ref 10, .int t, .int key] σ = some (.inl (some (.int (ya_X3_rootOf σ t key))), σ) := by
  refine ee_meth ?_ rfl
  unfold sm_X3_rootOf ya_X3_rootOf
  by_cases ht : t = -1
  · rw [if_pos ht]
    refine es_Q (es_B (es_Q (es_SI ee_K0 ?_)))
    refine (es_for (E := fun i => [.ref 10, .int t, .int key, .int (nI i)]) (P := fun _ => false) (R := fun _ => none) 0 0 1000 (by omega) (fun i h1 h2 => absurd h2 (by omega)) ?_ (fun i h1 h2 => absurd h2 (by omega))).trans (es_eI (k := fun _ => sy_fail) ee_K)
    exact (ee_cA (ee_cB (ee_L rfl) ee_K) (fun _ => ee_cB (ee_L rfl) ee_K)).trans (by rw [decide_eq_true ht]; rfl)
  · rw [if_neg ht]
    refine es_Q (es_B (es_Q (es_SI ee_K0 (es_forP (E := fun i => [.ref 10, .int t, .int key, .int (nI i)]) (n := 60) (a := 0) (by omega) (fun i h1 h2 => ?_) ?_ (fun i g1 g2 k' => es_Q (es_I (ee_cA (ee_cB (ee_An (ee_rF (ee_R rfl) rfl) (ee_L rfl) (show i < 60 by omega) (by decide)) (ee_L rfl)) (fun _ => ee_cB (ee_M (ee_aR (ee_R rfl) (ee_aI (ee_L rfl) (ee_aI ee_K ee_aN))) (ee_cv (yt_X3_numberOf σ (nI i) 0) rfl)) (ee_L rfl))) (fun _ => es_eI (ee_L rfl)) (fun _ => es_N (es_In1 rfl rfl)))) (fun _ => es_eI ee_K)))))
    · refine (ee_cA (ee_cB (ee_L rfl) ee_K) (fun _ => ee_cB (ee_L rfl) ee_K)).trans ?_
      rw [decide_eq_false ht, show decide (nI i < 60) = decide (i < 60) from yi_lt (N := 60) rfl (by omega) (by omega), decide_eq_true (by omega)]
      rfl
    · refine (ee_cA (ee_cB (ee_L rfl) ee_K) (fun _ => ee_cB (ee_L rfl) ee_K)).trans ?_
      rw [decide_eq_false ht]
      rfl
def ya_met (c x y : Int32) : Bool := if c = 0 then decide (x = y) else if c = 1 then !decide (x = y) else if c = 2 then decide (x < y) else if c = 3 then decide (x ≤ y) else if c = 4 then decide (y < x) else decide (y ≤ x)
theorem yt_X0_isMet (σ : sy_Mem) (c x y : Int32) : sf_X0_isMet [.int c, .int x, .int y] σ = some (.inl (some (.int (ya_b (ya_met c x y)))), σ) := by
  refine ee_meth ?_ rfl
  unfold sm_X0_isMet ya_met
  refine es_X (ee_L rfl) ?_
  by_cases h0 : c = 0
  · rw [if_pos h0, if_pos h0]; exact es_eZb (ee_iC (ee_cB (ee_L rfl) (ee_L rfl)))
  rw [if_neg h0, if_neg h0]
  by_cases h1 : c = 1
  · rw [if_pos h1, if_pos h1]; exact es_eZb (ee_iC (ee_cB (ee_L rfl) (ee_L rfl)))
  rw [if_neg h1, if_neg h1]
  by_cases h2 : c = 2
  · rw [if_pos h2, if_pos h2]; exact es_eZb (ee_iC (ee_cB (ee_L rfl) (ee_L rfl)))
  rw [if_neg h2, if_neg h2]
  by_cases h3 : c = 3
  · rw [if_pos h3, if_pos h3]; exact es_eZb (ee_iC (ee_cB (ee_L rfl) (ee_L rfl)))
  rw [if_neg h3, if_neg h3]
  by_cases h4 : c = 4
  · rw [if_pos h4, if_pos h4]; exact es_eZb (ee_iC (ee_cB (ee_L rfl) (ee_L rfl)))
  rw [if_neg h4, if_neg h4]
  exact es_eZb (ee_iC (ee_cB (ee_L rfl) (ee_L rfl)))
/-- parts at each OR, and in a part all conditions: from condition i on, n of them, what is met of the part so far -/
def ya_ful (isor met : Nat → Bool) : Nat → Nat → Bool → Bool
  | 0, _, p => p
  | n + 1, i, p => if decide (0 < i) && isor i then (if p then true else ya_ful isor met n (i + 1) (met i)) else ya_ful isor met n (i + 1) (p && met i)
def ya_X0_isFulfilled (σ : sy_Mem) (a s : Int32) : Bool := ya_ful (fun i => !decide (σ 23 (3 * a.toNatClampNeg + i) = 0)) (fun i => ya_met (σ 25 (3 * a.toNatClampNeg + i)) (ya_N σ s (σ 24 (3 * a.toNatClampNeg + i))) (σ 26 (3 * a.toNatClampNeg + i))) (min (ya_ag σ 22 0 a).toNatClampNeg 3) 0 true
theorem yt_X0_isFulfilled {σ : sy_Mem} (W : ya_W σ) (a s : Int32) : sf_X0_isFulfilled [.ref 19, .int a, .ref 10, .int s] σ = some (.inl (some (.int (ya_b (ya_X0_isFulfilled σ a s)))), σ) := by
  refine ee_meth ?_ rfl
  unfold sm_X0_isFulfilled
  refine es_Q (es_SI (x := ya_b true) ee_K (es_Q (es_SI (ee_B (ee_L rfl) ee_K) (es_Q (es_B (es_Q (es_SI ee_K0 ?_)))))))
  unfold ya_X0_isFulfilled
  have key : ∀ (n i m : Nat) (p : Bool), i + n = min (ya_ag σ 22 0 a).toNatClampNeg 3 → n < m → sy_wh (sy_cA (sy_clt (sy_iL 6) (sy_iM (sy_cv 0 1 sf_X0_conditionsOf) (sy_aR (sy_rL 0) (sy_aI (sy_iL 1) sy_aN)))) (sy_clt (sy_iL 6) (sy_iK 3))) (sy_sQ (sy_sB 7 (sy_sQ (sy_sI (sy_cA (sy_cgt (sy_iL 6) (sy_iK 0)) (sy_cI (sy_iA 1 (sy_rF 0 4 (sy_rL 0)) (sy_iAdd (sy_iL 5) (sy_iL 6))))) (sy_sQ (sy_sI (sy_cI (sy_iL 4)) (sy_eZ (sy_iK 1)) sy_sN) (sy_sSI 4 (sy_iK 1))) sy_sN) (sy_sQ (sy_sSI 7 (sy_iM (sy_cv 3 2 sf_X3_numberOf) (sy_aR (sy_rL 2) (sy_aI (sy_iL 3) (sy_aI (sy_iA 0 (sy_rF 0 5 (sy_rL 0)) (sy_iAdd (sy_iL 5) (sy_iL 6))) sy_aN))))) (sy_sSI 4 (sy_iC (sy_cA (sy_cI (sy_iL 4)) (sy_cI (sy_iM (sy_cs 3 sf_X0_isMet) (sy_aI (sy_iA 0 (sy_rF 0 6 (sy_rL 0)) (sy_iAdd (sy_iL 5) (sy_iL 6))) (sy_aI (sy_iL 7) (sy_aI (sy_iA 0 (sy_rF 0 7 (sy_rL 0)) (sy_iAdd (sy_iL 5) (sy_iL 6))) sy_aN))))))))))) (sy_sIn 6 1)) m [.ref 19, .int a, .ref 10, .int s, .int (ya_b p), .int (a * 3), .int (nI i)] (fun env => sy_eZ (sy_iL 4) (env.take 6) (fun _ => sy_fail)) σ = some (.inl (some (.int (ya_b (ya_ful (fun i => !decide (σ 23 (3 * a.toNatClampNeg + i) = 0)) (fun i => ya_met (σ 25 (3 * a.toNatClampNeg + i)) (ya_N σ s (σ 24 (3 * a.toNatClampNeg + i))) (σ 26 (3 * a.toNatClampNeg + i))) n i p)))), σ) := by
    intro n
    induction n with
    | zero =>
      intro i m p hi hm
      obtain ⟨m, rfl⟩ : ∃ q, m = q + 1 := ⟨m - 1, by omega⟩
      unfold sy_wh
      have hc : (decide (nI i < ya_ag σ 22 0 a) && decide (nI i < 3)) = false := by
        rw [yi_ltB (by omega), show decide (nI i < 3) = decide (i < 3) from yi_lt (N := 3) rfl (by omega) (by omega)]
        rcases Nat.lt_or_ge i 3 with q | q
        · rw [decide_eq_false (by omega)]; rfl
        · rw [decide_eq_false (p := i < 3) (by omega), Bool.and_false]
      rw [sy_bnd_at ((ee_cA (ee_cB (ee_L rfl) (ee_M (ee_aR (ee_R rfl) (ee_aI (ee_L rfl) ee_aN)) (ee_cv (yt_X0_conditionsOf σ a) rfl))) (fun _ => ee_cB (ee_L rfl) ee_K)).trans (by rw [hc]))]
      exact es_eZb (k := fun _ => sy_fail) (ee_L rfl)
    | succ n ih =>
      intro i m p hi hm
      obtain ⟨m, rfl⟩ : ∃ q, m = q + 1 := ⟨m - 1, by omega⟩
      have hA : ya_isA σ a = true := by
        cases hq : ya_isA σ a with
        | true => rfl
        | false =>
          exfalso
          have : (ya_ag σ 22 0 a).toNatClampNeg = 0 := by
            unfold ya_ag
            rw [hq]
            rfl
          omega
      have hA2 := yl_isA.mp hA
      have e := yl_ix (x := a) (y := nI i) (n := 4) (m := 3) yl_c3 hA2.1 hA2.2.2 (by omega) (by rw [nI_toInt (by omega)]; omega) (by rw [nI_toInt (by omega)]; omega)
      have e2 := e.2.1
      rw [nI_clamp (by omega)] at e2
      unfold sy_wh
      have hc : (decide (nI i < ya_ag σ 22 0 a) && decide (nI i < 3)) = true := by
        rw [yi_ltB (by omega), show decide (nI i < 3) = decide (i < 3) from yi_lt (N := 3) rfl (by omega) (by omega), decide_eq_true (by omega), decide_eq_true (by omega)]
        rfl
      rw [sy_bnd_at ((ee_cA (ee_cB (ee_L rfl) (ee_M (ee_aR (ee_R rfl) (ee_aI (ee_L rfl) ee_aN)) (ee_cv (yt_X0_conditionsOf σ a) rfl))) (fun _ => ee_cB (ee_L rfl) ee_K)).trans (by rw [hc]))]
      have hrest : ∀ p : Bool, (sy_sQ (sy_sSI 7 (sy_iM (sy_cv 3 2 sf_X3_numberOf) (sy_aR (sy_rL 2) (sy_aI (sy_iL 3) (sy_aI (sy_iA 0 (sy_rF 0 5 (sy_rL 0)) (sy_iAdd (sy_iL 5) (sy_iL 6))) sy_aN))))) (sy_sSI 4 (sy_iC (sy_cA (sy_cI (sy_iL 4)) (sy_cI (sy_iM (sy_cs 3 sf_X0_isMet) (sy_aI (sy_iA 0 (sy_rF 0 6 (sy_rL 0)) (sy_iAdd (sy_iL 5) (sy_iL 6))) (sy_aI (sy_iL 7) (sy_aI (sy_iA 0 (sy_rF 0 7 (sy_rL 0)) (sy_iAdd (sy_iL 5) (sy_iL 6))) sy_aN))))))))) [.ref 19, .int a, .ref 10, .int s, .int (ya_b p), .int (a * 3), .int (nI i)] (fun env' => sy_sIn 6 1 (env'.take 7) (fun env' => sy_wh (sy_cA (sy_clt (sy_iL 6) (sy_iM (sy_cv 0 1 sf_X0_conditionsOf) (sy_aR (sy_rL 0) (sy_aI (sy_iL 1) sy_aN)))) (sy_clt (sy_iL 6) (sy_iK 3))) (sy_sQ (sy_sB 7 (sy_sQ (sy_sI (sy_cA (sy_cgt (sy_iL 6) (sy_iK 0)) (sy_cI (sy_iA 1 (sy_rF 0 4 (sy_rL 0)) (sy_iAdd (sy_iL 5) (sy_iL 6))))) (sy_sQ (sy_sI (sy_cI (sy_iL 4)) (sy_eZ (sy_iK 1)) sy_sN) (sy_sSI 4 (sy_iK 1))) sy_sN) (sy_sQ (sy_sSI 7 (sy_iM (sy_cv 3 2 sf_X3_numberOf) (sy_aR (sy_rL 2) (sy_aI (sy_iL 3) (sy_aI (sy_iA 0 (sy_rF 0 5 (sy_rL 0)) (sy_iAdd (sy_iL 5) (sy_iL 6))) sy_aN))))) (sy_sSI 4 (sy_iC (sy_cA (sy_cI (sy_iL 4)) (sy_cI (sy_iM (sy_cs 3 sf_X0_isMet) (sy_aI (sy_iA 0 (sy_rF 0 6 (sy_rL 0)) (sy_iAdd (sy_iL 5) (sy_iL 6))) (sy_aI (sy_iL 7) (sy_aI (sy_iA 0 (sy_rF 0 7 (sy_rL 0)) (sy_iAdd (sy_iL 5) (sy_iL 6))) sy_aN))))))))))) (sy_sIn 6 1)) m env' (fun env => sy_eZ (sy_iL 4) (env.take 6) (fun _ => sy_fail)))) σ = some (.inl (some (.int (ya_b (ya_ful (fun i => !decide (σ 23 (3 * a.toNatClampNeg + i) = 0)) (fun i => ya_met (σ 25 (3 * a.toNatClampNeg + i)) (ya_N σ s (σ 24 (3 * a.toNatClampNeg + i))) (σ 26 (3 * a.toNatClampNeg + i))) n (i + 1) (p && ya_met (σ 25 (3 * a.toNatClampNeg + i)) (ya_N σ s (σ 24 (3 * a.toNatClampNeg + i))) (σ 26 (3 * a.toNatClampNeg + i))))))), σ) := by
        intro p
        refine es_Q (es_SI (ee_M (ee_aR (ee_R rfl) (ee_aI (ee_L rfl) (ee_aI (ee_A (ee_rF (ee_R rfl) rfl) (ee_B (ee_L rfl) (ee_L rfl)) e.2.2) ee_aN))) (ee_cv (yt_X3_numberOf σ s _) rfl)) (es_SI (ee_iC (ee_cA (ee_cb (ee_L rfl)) (fun _ => ee_cb (ee_M (ee_aI (ee_A (ee_rF (ee_R rfl) rfl) (ee_B (ee_L rfl) (ee_L rfl)) e.2.2) (ee_aI (ee_L rfl) (ee_aI (ee_A (ee_rF (ee_R rfl) rfl) (ee_B (ee_L rfl) (ee_L rfl)) e.2.2) ee_aN))) (ee_cs (yt_X0_isMet σ _ _ _) rfl))))) (es_In1 rfl ?_)))
        rw [e2]
        exact ih (i + 1) m _ (by omega) (by omega)
      unfold ya_ful
      refine es_Q (es_B (es_Q ?_))
      have hor : sy_cA (sy_cgt (sy_iL 6) (sy_iK 0)) (sy_cI (sy_iA 1 (sy_rF 0 4 (sy_rL 0)) (sy_iAdd (sy_iL 5) (sy_iL 6)))) [.ref 19, .int a, .ref 10, .int s, .int (ya_b p), .int (a * 3), .int (nI i)] σ = some (.inl (decide (0 < i) && !decide (σ 23 (3 * a.toNatClampNeg + i) = 0)), σ) := by
        refine (ee_cA (ee_cB (ee_L rfl) ee_K) (fun _ => ee_cI (ee_A (ee_rF (ee_R rfl) rfl) (ee_B (ee_L rfl) (ee_L rfl)) e.2.2))).trans ?_
        rw [e2, show decide (0 < nI i) = decide (0 < i) from decide_eq_decide.mpr (by rw [Int32.lt_iff_toInt_lt, nI_toInt (by omega), yl_c0]; omega)]
      unfold sy_sI
      rw [sy_bnd_at hor]
      by_cases ho : (decide (0 < i) && !decide (σ 23 (3 * a.toNatClampNeg + i) = 0)) = true
      · rw [if_pos ho, if_pos ho]
        refine es_Q ?_
        show sy_sI _ _ _ _ _ σ = _
        refine (es_IB (x := p) (u := true) (v := _) (ee_cb (ee_L rfl)) (fun _ => es_eZ1) (fun _ => es_N (es_SI (x := ya_b true) ee_K ?_)))
        exact hrest true
      · rw [if_neg ho, if_neg ho]
        exact hrest p
  exact key _ 0 1000 true (by omega) (by omega)

def ya_X2_levelBelow (σ : sy_Mem) (a1 : Int32) : Int32 := ((ya_tg σ 4 0 a1) + 1)
theorem yt_X2_levelBelow {σ : sy_Mem} (W : ya_W σ) (a1 : Int32) : sf_X2_levelBelow [.ref 1, .int a1] σ = some (.inl (some (.int (ya_X2_levelBelow σ a1))), σ) := by
  refine ee_meth ?_ rfl
  unfold sm_X2_levelBelow ya_X2_levelBelow
  exact (es_eI (ee_B (ee_M (ee_aR (ee_R rfl) (ee_aI (ee_L rfl) ee_aN)) (ee_cv (yt_X2_levelOf W a1) rfl)) ee_K))
def ya_X2_hasRootType (σ : sy_Mem) (a1 : Int32) : Bool := (if (ya_ff (fun i => ((ya_X2_isRootType σ (nI i)) && (decide ((ya_tg σ 2 (-1) (nI i)) = a1)))) (((σ 1 0)).toNatClampNeg) 0).isSome then true else false)
theorem yt_X2_hasRootType {σ : sy_Mem} (W : ya_W σ) (a1 : Int32) : sf_X2_hasRootType [.ref 1, .int a1] σ = some (.inl (some (.int (ya_b (ya_X2_hasRootType σ a1)))), σ) := by
  refine ee_meth ?_ rfl
  unfold sm_X2_hasRootType ya_X2_hasRootType
  exact (es_Q (es_B (es_Q (es_SI ee_K0 (es_forBL (E := (fun i => [.ref 1, .int a1, .int (nI i)])) (P := fun i => ((ya_X2_isRootType σ (nI i)) && (decide ((ya_tg σ 2 (-1) (nI i)) = a1)))) (j := 2) (a := 0) (fun _ => rfl) (fun i => (ee_F (ee_R rfl) rfl)) (yl_types W) (by decide) (fun i g1 g2 k' => es_Q (es_I (ee_cA (ee_cb (ee_M (ee_aR (ee_R rfl) (ee_aI (ee_L rfl) ee_aN)) (ee_cv (yt_X2_isRootType W (nI i)) rfl))) (fun h2 => (ee_cB (ee_M (ee_aR (ee_R rfl) (ee_aI (ee_L rfl) ee_aN)) (ee_cv (yt_X2_databaseOf W (nI i)) rfl)) (ee_L rfl)))) (fun h1 => es_eZ1) (fun h1 => (es_N (es_In1 rfl rfl))))) (fun h3 => es_eZ0))))))
def ya_X2_isBelow (σ : sy_Mem) (a1 : Int32) (a2 : Int32) : Bool := ((ya_walk (fun x => (ya_tg σ 3 (-1) x)) (fun x => (decide (x = a2))) 4 (ya_tg σ 3 (-1) a1)).elim false (fun x => true))
theorem yt_X2_isBelow {σ : sy_Mem} (W : ya_W σ) (a1 : Int32) (a2 : Int32) : sf_X2_isBelow [.ref 1, .int a1, .int a2] σ = some (.inl (some (.int (ya_b (ya_X2_isBelow σ a1 a2)))), σ) := by
  refine ee_meth ?_ rfl
  unfold sm_X2_isBelow ya_X2_isBelow
  exact (es_Q (es_SI (ee_M (ee_aR (ee_R rfl) (ee_aI (ee_L rfl) ee_aN)) (ee_cv (yt_X2_parentOf W a1) rfl)) (es_Q (es_B (es_Q (es_SI ee_K0 (es_walkB (E := (fun x l => [.ref 1, .int a1, .int a2, .int x, .int (nI l)])) (nx := fun x => (ya_tg σ 3 (-1) x)) (Q := fun x => (decide (x = a2))) (R := fun x => true) (by decide) (fun x l hl => (ee_cA (ee_cB (ee_L rfl) ee_K) (fun _ => ee_cB (ee_L rfl) ee_K)).trans (by rw [show decide (nI l < 4) = decide (l < 4) from yi_lt (N := 4) rfl (by omega) (by omega)])) (fun x l hl hx k' => es_Q (es_Q (es_I (ee_cB (ee_L rfl) (ee_L rfl)) (fun h1 => es_eZ1) (fun h1 => (es_N (es_SI (ee_M (ee_aR (ee_R rfl) (ee_aI (ee_L rfl) ee_aN)) (ee_cv (yt_X2_parentOf W x) rfl)) (es_In1 rfl rfl))))))) (fun x l => es_eZ0))))))))
def ya_X4_sees (σ : sy_Mem) (v : Nat) (a1 : Int32) : Bool := (if (!decide ((ya_tg σ 2 (-1) a1) = (σ (sy_vw v) 0))) then false else ((ya_walk (fun x => (ya_tg σ 3 (-1) x)) (fun x => (decide ((((σ (sy_vw v) 1) >>> (x &&& 31)) &&& 1) = 0))) 4 a1).elim true (fun x => false)))
theorem yt_X4_sees {σ : sy_Mem} (W : ya_W σ) {v : Nat} (hv : v < 4) (a1 : Int32) : sf_X4_sees [.ref (sy_vw v), .ref 1, .int a1] σ = some (.inl (some (.int (ya_b (ya_X4_sees σ v a1)))), σ) := by
  refine ee_meth ?_ rfl
  unfold sm_X4_sees ya_X4_sees
  exact (es_Q (es_IB (ee_cB (ee_M (ee_aR (ee_R rfl) (ee_aI (ee_L rfl) ee_aN)) (ee_cv (yt_X2_databaseOf W a1) rfl)) (ee_F (ee_R rfl) (yv_I hv (by decide)))) (fun h1 => es_eZ0) (fun h1 => (es_N (es_Q (es_SI (ee_L rfl) (es_Q (es_B (es_Q (es_SI ee_K0 (es_walkB (E := (fun x l => [.ref (sy_vw v), .ref 1, .int a1, .int x, .int (nI l)])) (nx := fun x => (ya_tg σ 3 (-1) x)) (Q := fun x => (decide ((((σ (sy_vw v) 1) >>> (x &&& 31)) &&& 1) = 0))) (R := fun x => false) (by decide) (fun x l hl => (ee_cA (ee_cB (ee_L rfl) ee_K) (fun _ => ee_cB (ee_L rfl) ee_K)).trans (by rw [show decide (nI l < 4) = decide (l < 4) from yi_lt (N := 4) rfl (by omega) (by omega)])) (fun x l hl hx k' => es_Q (es_Q (es_I (ee_cB (ee_B (ee_B (ee_F (ee_R rfl) (yv_I hv (by decide))) (ee_L rfl)) ee_K) ee_K) (fun h2 => es_eZ0) (fun h2 => (es_N (es_SI (ee_M (ee_aR (ee_R rfl) (ee_aI (ee_L rfl) ee_aN)) (ee_cv (yt_X2_parentOf W x) rfl)) (es_In1 rfl rfl))))))) (fun x l => es_eZ1))))))))))))
def ya_X5_isListOrdered (σ : sy_Mem) (v : Nat) : Bool := (if (ya_ff (fun i => ((!(ya_X4_sees σ v (ya_ag σ 20 (-1) (nI i)))) || ((decide (0 < (nI i))) && (!(ya_X2_isBelow σ (ya_ag σ 20 (-1) (nI i)) (ya_ag σ 20 (-1) ((nI i) - 1))))))) (((σ 19 0)).toNatClampNeg) 0).isSome then false else true)
theorem yt_X5_isListOrdered {σ : sy_Mem} (W : ya_W σ) {v : Nat} (hv : v < 4) : sf_X5_isListOrdered [.ref 0, .ref (sy_vw v)] σ = some (.inl (some (.int (ya_b (ya_X5_isListOrdered σ v)))), σ) := by
  refine ee_meth ?_ rfl
  unfold sm_X5_isListOrdered ya_X5_isListOrdered
  exact (es_Q (es_B (es_Q (es_SI ee_K0 (es_forBL (E := (fun i => [.ref 0, .ref (sy_vw v), .int (nI i)])) (P := fun i => ((!(ya_X4_sees σ v (ya_ag σ 20 (-1) (nI i)))) || ((decide (0 < (nI i))) && (!(ya_X2_isBelow σ (ya_ag σ 20 (-1) (nI i)) (ya_ag σ 20 (-1) ((nI i) - 1))))))) (j := 2) (a := 0) (fun _ => rfl) (fun i => (ee_M (ee_aR (ee_rF (ee_R rfl) rfl) ee_aN) (ee_cv (yt_X0_size σ) rfl))) (yl_size W) (by decide) (fun i g1 g2 k' => es_Q (es_B (es_Q (es_SI (ee_M (ee_aR (ee_rF (ee_R rfl) rfl) (ee_aI (ee_L rfl) ee_aN)) (ee_cv (yt_X0_typeOf σ (nI i)) rfl)) (es_Q (es_IT (ee_cN (ee_cb (ee_M (ee_aR (ee_R rfl) (ee_aR (ee_rF (ee_R rfl) rfl) (ee_aI (ee_L rfl) ee_aN))) (ee_cv (yt_X4_sees W hv (ya_ag σ 20 (-1) (nI i))) (yv_rc hv rfl))))) (fun h1 => es_eZ0) (fun h1 => (es_N (es_I (ee_cA (ee_cB (ee_L rfl) ee_K) (fun h3 => (ee_cN (ee_cb (ee_M (ee_aR (ee_rF (ee_R rfl) rfl) (ee_aI (ee_L rfl) (ee_aI (ee_M (ee_aR (ee_rF (ee_R rfl) rfl) (ee_aI (ee_B (ee_L rfl) ee_K) ee_aN)) (ee_cv (yt_X0_typeOf σ ((nI i) - 1)) rfl)) ee_aN))) (ee_cv (yt_X2_isBelow W (ya_ag σ 20 (-1) (nI i)) (ya_ag σ 20 (-1) ((nI i) - 1))) rfl)))))) (fun h2 => es_eZ0) (fun h2 => (es_N (es_In1 rfl rfl)))))))))))) (fun h4 => es_eZ1))))))
def ya_X3_databaseOf (σ : sy_Mem) (a1 : Int32) : Int32 := (ya_tg σ 2 (-1) (ya_sg σ 11 a1))
theorem yt_X3_databaseOf {σ : sy_Mem} (W : ya_W σ) (a1 : Int32) : sf_X3_databaseOf [.ref 10, .int a1] σ = some (.inl (some (.int (ya_X3_databaseOf σ a1))), σ) := by
  refine ee_meth ?_ rfl
  unfold sm_X3_databaseOf ya_X3_databaseOf
  exact (es_eI (ee_M (ee_aR (ee_rF (ee_R rfl) rfl) (ee_aI (ee_M (ee_aR (ee_R rfl) (ee_aI (ee_L rfl) ee_aN)) (ee_cv (yt_X3_typeOf σ a1) rfl)) ee_aN)) (ee_cv (yt_X2_databaseOf W (ya_sg σ 11 a1)) rfl)))
def ya_X3_isBelow (σ : sy_Mem) (a1 : Int32) (a2 : Int32) : Bool := ((ya_walk (fun x => (ya_sg σ 12 x)) (fun x => (decide (x = a2))) 4 (ya_sg σ 12 a1)).elim false (fun x => true))
theorem yt_X3_isBelow {σ : sy_Mem} (W : ya_W σ) (a1 : Int32) (a2 : Int32) : sf_X3_isBelow [.ref 10, .int a1, .int a2] σ = some (.inl (some (.int (ya_b (ya_X3_isBelow σ a1 a2)))), σ) := by
  refine ee_meth ?_ rfl
  unfold sm_X3_isBelow ya_X3_isBelow
  exact (es_Q (es_SI (ee_M (ee_aR (ee_R rfl) (ee_aI (ee_L rfl) ee_aN)) (ee_cv (yt_X3_parentOf σ a1) rfl)) (es_Q (es_B (es_Q (es_SI ee_K0 (es_walkB (E := (fun x l => [.ref 10, .int a1, .int a2, .int x, .int (nI l)])) (nx := fun x => (ya_sg σ 12 x)) (Q := fun x => (decide (x = a2))) (R := fun x => true) (by decide) (fun x l hl => (ee_cA (ee_cB (ee_L rfl) ee_K) (fun _ => ee_cB (ee_L rfl) ee_K)).trans (by rw [show decide (nI l < 4) = decide (l < 4) from yi_lt (N := 4) rfl (by omega) (by omega)])) (fun x l hl hx k' => es_Q (es_Q (es_I (ee_cB (ee_L rfl) (ee_L rfl)) (fun h1 => es_eZ1) (fun h1 => (es_N (es_SI (ee_M (ee_aR (ee_R rfl) (ee_aI (ee_L rfl) ee_aN)) (ee_cv (yt_X3_parentOf σ x) rfl)) (es_In1 rfl rfl))))))) (fun x l => es_eZ0))))))))
def ya_X3_upward (σ : sy_Mem) (a1 : Int32) (a2 : Int32) : Int32 := ((ya_walk (fun x => (ya_sg σ 12 x)) (fun x => (decide ((ya_sg σ 11 x) = a2))) 4 a1).elim (-1) (fun x => x))
theorem yt_X3_upward {σ : sy_Mem} (W : ya_W σ) (a1 : Int32) (a2 : Int32) : sf_X3_upward [.ref 10, .int a1, .int a2] σ = some (.inl (some (.int (ya_X3_upward σ a1 a2))), σ) := by
  refine ee_meth ?_ rfl
  unfold sm_X3_upward ya_X3_upward
  exact (es_Q (es_SI (ee_L rfl) (es_Q (es_B (es_Q (es_SI ee_K0 (es_walkP (E := (fun x l => [.ref 10, .int a1, .int a2, .int x, .int (nI l)])) (nx := fun x => (ya_sg σ 12 x)) (Q := fun x => (decide ((ya_sg σ 11 x) = a2))) (R := fun x => x) (by decide) (fun x l hl => (ee_cA (ee_cB (ee_L rfl) ee_K) (fun _ => ee_cB (ee_L rfl) ee_K)).trans (by rw [show decide (nI l < 4) = decide (l < 4) from yi_lt (N := 4) rfl (by omega) (by omega)])) (fun x l hl hx k' => es_Q (es_Q (es_I (ee_cB (ee_M (ee_aR (ee_R rfl) (ee_aI (ee_L rfl) ee_aN)) (ee_cv (yt_X3_typeOf σ x) rfl)) (ee_L rfl)) (fun h1 => (es_eI (ee_L rfl))) (fun h1 => (es_N (es_SI (ee_M (ee_aR (ee_R rfl) (ee_aI (ee_L rfl) ee_aN)) (ee_cv (yt_X3_parentOf σ x) rfl)) (es_In1 rfl rfl))))))) (fun x l => (es_eI ee_K)))))))))
def ya_X3_liesUpTo (σ : sy_Mem) (a1 : Int32) (a2 : Int32) (a3 : Int32) : Bool := ((ya_walk (fun x => (ya_sg σ 12 x)) (fun x => (decide ((ya_sg σ 12 x) = a2))) 4 a1).elim false (fun x => (decide ((ya_sg σ 11 x) ≤ a3))))
theorem yt_X3_liesUpTo {σ : sy_Mem} (W : ya_W σ) (a1 : Int32) (a2 : Int32) (a3 : Int32) : sf_X3_liesUpTo [.ref 10, .int a1, .int a2, .int a3] σ = some (.inl (some (.int (ya_b (ya_X3_liesUpTo σ a1 a2 a3)))), σ) := by
  refine ee_meth ?_ rfl
  unfold sm_X3_liesUpTo ya_X3_liesUpTo
  exact (es_Q (es_SI (ee_L rfl) (es_Q (es_B (es_Q (es_SI ee_K0 (es_walkB (E := (fun x l => [.ref 10, .int a1, .int a2, .int a3, .int x, .int (nI l)])) (nx := fun x => (ya_sg σ 12 x)) (Q := fun x => (decide ((ya_sg σ 12 x) = a2))) (R := fun x => (decide ((ya_sg σ 11 x) ≤ a3))) (by decide) (fun x l hl => (ee_cA (ee_cB (ee_L rfl) ee_K) (fun _ => ee_cB (ee_L rfl) ee_K)).trans (by rw [show decide (nI l < 4) = decide (l < 4) from yi_lt (N := 4) rfl (by omega) (by omega)])) (fun x l hl hx k' => es_Q (es_Q (es_I (ee_cB (ee_M (ee_aR (ee_R rfl) (ee_aI (ee_L rfl) ee_aN)) (ee_cv (yt_X3_parentOf σ x) rfl)) (ee_L rfl)) (fun h1 => (es_eZb (ee_iC (ee_cB (ee_M (ee_aR (ee_R rfl) (ee_aI (ee_L rfl) ee_aN)) (ee_cv (yt_X3_typeOf σ x) rfl)) (ee_L rfl))))) (fun h1 => (es_N (es_SI (ee_M (ee_aR (ee_R rfl) (ee_aI (ee_L rfl) ee_aN)) (ee_cv (yt_X3_parentOf σ x) rfl)) (es_In1 rfl rfl))))))) (fun x l => es_eZ0))))))))
def ya_X3_signOf (σ : sy_Mem) (a1 : Int32) : Int32 := ((1000 * (ya_sg σ 11 a1)) + (ya_N σ a1 0))
theorem yt_X3_signOf {σ : sy_Mem} (W : ya_W σ) (a1 : Int32) : sf_X3_signOf [.ref 10, .int a1] σ = some (.inl (some (.int (ya_X3_signOf σ a1))), σ) := by
  refine ee_meth ?_ rfl
  unfold sm_X3_signOf ya_X3_signOf
  exact (es_eI (ee_B (ee_B ee_K (ee_M (ee_aR (ee_R rfl) (ee_aI (ee_L rfl) ee_aN)) (ee_cv (yt_X3_typeOf σ a1) rfl))) (ee_M (ee_aR (ee_R rfl) (ee_aI (ee_L rfl) (ee_aI ee_K ee_aN))) (ee_cv (yt_X3_numberOf σ a1 0) rfl))))
def ya_X3_hasTwin (σ : sy_Mem) (a1 : Int32) (a2 : Int32) (a3 : Int32) : Bool := (if (ya_ff (fun i => ((ya_tw σ (nI i) a1 a2) && (decide ((ya_N σ (nI i) 0) = a3)))) (60) 0).isSome then true else false)
theorem yt_X3_hasTwin {σ : sy_Mem} (W : ya_W σ) (a1 : Int32) (a2 : Int32) (a3 : Int32) : sf_X3_hasTwin [.ref 10, .int a1, .int a2, .int a3] σ = some (.inl (some (.int (ya_b (ya_X3_hasTwin σ a1 a2 a3)))), σ) := by
  refine ee_meth ?_ rfl
  unfold sm_X3_hasTwin ya_X3_hasTwin
  exact (es_Q (es_B (es_Q (es_SI ee_K0 (es_forBL (E := (fun i => [.ref 10, .int a1, .int a2, .int a3, .int (nI i)])) (P := fun i => ((ya_tw σ (nI i) a1 a2) && (decide ((ya_N σ (nI i) 0) = a3)))) (j := 4) (a := 0) (fun _ => rfl) (fun i => ee_K) (by decide) (by decide) (fun i g1 g2 k' => es_Q (es_I (ee_cA (ee_cb (ee_M (ee_aR (ee_R rfl) (ee_aI (ee_L rfl) (ee_aI (ee_L rfl) (ee_aI (ee_L rfl) ee_aN)))) (ee_cv (yt_X3_isTwin σ (nI i) a1 a2) rfl))) (fun h2 => (ee_cB (ee_M (ee_aR (ee_R rfl) (ee_aI (ee_L rfl) (ee_aI ee_K ee_aN))) (ee_cv (yt_X3_numberOf σ (nI i) 0) rfl)) (ee_L rfl)))) (fun h1 => es_eZ1) (fun h1 => (es_N (es_In1 rfl rfl))))) (fun h3 => es_eZ0))))))
def ya_X3_unused (σ : sy_Mem) : Int32 := ((ya_ff (fun i => (decide ((σ 11 i) = (-1)))) (60) 0).elim (-1) (fun i => (nI i)))
theorem yt_X3_unused {σ : sy_Mem} (W : ya_W σ) : sf_X3_unused [.ref 10] σ = some (.inl (some (.int (ya_X3_unused σ))), σ) := by
  refine ee_meth ?_ rfl
  unfold sm_X3_unused ya_X3_unused
  exact (es_Q (es_B (es_Q (es_SI ee_K0 (es_forPL (R := fun i => (nI i)) (E := (fun i => [.ref 10, .int (nI i)])) (P := fun i => (decide ((σ 11 i) = (-1)))) (j := 1) (a := 0) (fun _ => rfl) (fun i => ee_K) (by decide) (by decide) (fun i g1 g2 k' => es_Q (es_I (ee_cB (ee_An (ee_rF (ee_R rfl) rfl) (ee_L rfl) (Nat.lt_of_lt_of_le g2 (by decide)) (by decide)) ee_K) (fun h1 => (es_eI (ee_L rfl))) (fun h1 => (es_N (es_In1 rfl rfl))))) (fun h2 => (es_eI ee_K)))))))
def ya_X3_isTied (σ : sy_Mem) (a1 : Int32) (a2 : Int32) : Bool := (((!decide ((ya_tg σ 7 (-1) (ya_sg σ 11 a1)) = (-1))) && (decide ((ya_tg σ 7 (-1) (ya_sg σ 11 a1)) = (ya_sg σ 11 a2)))) && (decide ((ya_N σ a1 2) = (ya_N σ a2 0))))
theorem yt_X3_isTied {σ : sy_Mem} (W : ya_W σ) (a1 : Int32) (a2 : Int32) : sf_X3_isTied [.ref 10, .int a1, .int a2] σ = some (.inl (some (.int (ya_b (ya_X3_isTied σ a1 a2)))), σ) := by
  refine ee_meth ?_ rfl
  unfold sm_X3_isTied ya_X3_isTied
  exact (es_Q (es_SI (ee_M (ee_aR (ee_rF (ee_R rfl) rfl) (ee_aI (ee_M (ee_aR (ee_R rfl) (ee_aI (ee_L rfl) ee_aN)) (ee_cv (yt_X3_typeOf σ a1) rfl)) ee_aN)) (ee_cv (yt_X2_targetOf W (ya_sg σ 11 a1)) rfl)) (es_eZb (ee_iC (ee_cA (ee_cA (ee_cB (ee_L rfl) ee_K) (fun h2 => (ee_cB (ee_L rfl) (ee_M (ee_aR (ee_R rfl) (ee_aI (ee_L rfl) ee_aN)) (ee_cv (yt_X3_typeOf σ a2) rfl))))) (fun h1 => (ee_cB (ee_M (ee_aR (ee_R rfl) (ee_aI (ee_L rfl) (ee_aI ee_K ee_aN))) (ee_cv (yt_X3_numberOf σ a1 2) rfl)) (ee_M (ee_aR (ee_R rfl) (ee_aI (ee_L rfl) (ee_aI ee_K ee_aN))) (ee_cv (yt_X3_numberOf σ a2 0) rfl)))))))))
def ya_X5_isPlace (σ : sy_Mem) (a1 : Int32) (a2 : Int32) : Bool := ((decide (0 ≤ a1) && decide (a1 < 3)) && (decide (0 ≤ a2) && decide (a2 < (ya_cnt σ a1))))
theorem yt_X5_isPlace {σ : sy_Mem} (W : ya_W σ) (a1 : Int32) (a2 : Int32) : sf_X5_isPlace [.ref 0, .int a1, .int a2] σ = some (.inl (some (.int (ya_b (ya_X5_isPlace σ a1 a2)))), σ) := by
  refine ee_meth ?_ rfl
  unfold sm_X5_isPlace ya_X5_isPlace
  exact (es_eZb (ee_iC (ee_cA (ee_cb (ee_M (ee_aI (ee_L rfl) (ee_aI ee_K ee_aN)) (ee_cs (yt_X5_isIn σ a1 3) rfl))) (fun h1 => (ee_cb (ee_M (ee_aI (ee_L rfl) (ee_aI (ee_M (ee_aR (ee_rF (ee_R rfl) rfl) (ee_aI (ee_L rfl) ee_aN)) (ee_cv (yt_X3_countOf σ a1) rfl)) ee_aN)) (ee_cs (yt_X5_isIn σ a2 (ya_cnt σ a1)) rfl)))))))
def ya_X5_isTwinFulfilling (σ : sy_Mem) (a1 : Int32) (a2 : Int32) (a3 : Int32) : Bool := (if (ya_ff (fun i => ((((!decide ((nI i) = a1)) && (ya_tw σ (nI i) (ya_sg σ 11 a1) (ya_sg σ 12 a1))) && (decide ((ya_b (decide ((ya_sg σ 17 (nI i)) < (ya_sg σ 17 a1)))) = a3))) && (ya_X0_isFulfilled σ a2 (nI i)))) (60) 0).isSome then true else false)
theorem yt_X5_isTwinFulfilling {σ : sy_Mem} (W : ya_W σ) (a1 : Int32) (a2 : Int32) (a3 : Int32) : sf_X5_isTwinFulfilling [.ref 0, .int a1, .int a2, .int a3] σ = some (.inl (some (.int (ya_b (ya_X5_isTwinFulfilling σ a1 a2 a3)))), σ) := by
  refine ee_meth ?_ rfl
  unfold sm_X5_isTwinFulfilling ya_X5_isTwinFulfilling
  exact (es_Q (es_SI (ee_M (ee_aR (ee_rF (ee_R rfl) rfl) (ee_aI (ee_L rfl) ee_aN)) (ee_cv (yt_X3_typeOf σ a1) rfl)) (es_Q (es_SI (ee_M (ee_aR (ee_rF (ee_R rfl) rfl) (ee_aI (ee_L rfl) ee_aN)) (ee_cv (yt_X3_parentOf σ a1) rfl)) (es_Q (es_B (es_Q (es_SI ee_K0 (es_forBL (E := (fun i => [.ref 0, .int a1, .int a2, .int a3, .int (ya_sg σ 11 a1), .int (ya_sg σ 12 a1), .int (nI i)])) (P := fun i => ((((!decide ((nI i) = a1)) && (ya_tw σ (nI i) (ya_sg σ 11 a1) (ya_sg σ 12 a1))) && (decide ((ya_b (decide ((ya_sg σ 17 (nI i)) < (ya_sg σ 17 a1)))) = a3))) && (ya_X0_isFulfilled σ a2 (nI i)))) (j := 6) (a := 0) (fun _ => rfl) (fun i => ee_K) (by decide) (by decide) (fun i g1 g2 k' => es_Q (es_B (es_Q (es_SI (ee_iC (ee_cA (ee_cB (ee_L rfl) (ee_L rfl)) (fun h1 => (ee_cb (ee_M (ee_aR (ee_rF (ee_R rfl) rfl) (ee_aI (ee_L rfl) (ee_aI (ee_L rfl) (ee_aI (ee_L rfl) ee_aN)))) (ee_cv (yt_X3_isTwin σ (nI i) (ya_sg σ 11 a1) (ya_sg σ 12 a1)) rfl)))))) (es_I (ee_cA (ee_cA (ee_cb (ee_L rfl)) (fun h4 => (ee_cB (ee_iC (ee_cB (ee_M (ee_aR (ee_rF (ee_R rfl) rfl) (ee_aI (ee_L rfl) ee_aN)) (ee_cv (yt_X3_placeOf σ (nI i)) rfl)) (ee_M (ee_aR (ee_rF (ee_R rfl) rfl) (ee_aI (ee_L rfl) ee_aN)) (ee_cv (yt_X3_placeOf σ a1) rfl)))) (ee_L rfl)))) (fun h3 => (ee_cb (ee_M (ee_aR (ee_rF (ee_R rfl) rfl) (ee_aI (ee_L rfl) (ee_aR (ee_rF (ee_R rfl) rfl) (ee_aI (ee_L rfl) ee_aN)))) (ee_cv (yt_X0_isFulfilled W a2 (nI i)) rfl))))) (fun h2 => es_eZ1) (fun h2 => (es_N (es_In1 rfl rfl)))))))) (fun h5 => es_eZ0))))))))))
def ya_X5_areCodesRight (σ : sy_Mem) (v : Nat) (a1 : Int32) (a2 : Int32) : Bool := (if ((ya_code σ a2 2) && (ya_X5_isTwinFulfilling σ a1 a2 1)) then false else (if ((ya_code σ a2 4) && (ya_X5_isTwinFulfilling σ a1 a2 0)) then false else (((!(ya_code σ a2 8)) || (decide ((ya_here σ v) = a1))) || (ya_X3_isBelow σ (ya_here σ v) a1))))
theorem yt_X5_areCodesRight {σ : sy_Mem} (W : ya_W σ) {v : Nat} (hv : v < 4) (a1 : Int32) (a2 : Int32) : sf_X5_areCodesRight [.ref 0, .ref (sy_vw v), .int a1, .int a2] σ = some (.inl (some (.int (ya_b (ya_X5_areCodesRight σ v a1 a2)))), σ) := by
  refine ee_meth ?_ rfl
  unfold sm_X5_areCodesRight ya_X5_areCodesRight
  exact (es_Q (es_IB (ee_cA (ee_cb (ee_M (ee_aR (ee_rF (ee_R rfl) rfl) (ee_aI (ee_L rfl) (ee_aI ee_K ee_aN))) (ee_cv (yt_X0_hasCode σ a2 2) rfl))) (fun h2 => (ee_cb (ee_M (ee_aR (ee_R rfl) (ee_aI (ee_L rfl) (ee_aI (ee_L rfl) (ee_aI ee_K ee_aN)))) (ee_cv (yt_X5_isTwinFulfilling W a1 a2 1) rfl))))) (fun h1 => es_eZ0) (fun h1 => (es_N (es_Q (es_IB (ee_cA (ee_cb (ee_M (ee_aR (ee_rF (ee_R rfl) rfl) (ee_aI (ee_L rfl) (ee_aI ee_K ee_aN))) (ee_cv (yt_X0_hasCode σ a2 4) rfl))) (fun h4 => (ee_cb (ee_M (ee_aR (ee_R rfl) (ee_aI (ee_L rfl) (ee_aI (ee_L rfl) (ee_aI ee_K ee_aN)))) (ee_cv (yt_X5_isTwinFulfilling W a1 a2 0) rfl))))) (fun h3 => es_eZ0) (fun h3 => (es_N (es_Q (es_SI (ee_M (ee_aR (ee_R rfl) ee_aN) (ee_cv (yt_X4_segmentAt σ hv) (yv_rc hv rfl))) (es_eZb (ee_iC (ee_cO (ee_cO (ee_cN (ee_cb (ee_M (ee_aR (ee_rF (ee_R rfl) rfl) (ee_aI (ee_L rfl) (ee_aI ee_K ee_aN))) (ee_cv (yt_X0_hasCode σ a2 8) rfl)))) (fun h6 => (ee_cB (ee_L rfl) (ee_L rfl)))) (fun h5 => (ee_cb (ee_M (ee_aR (ee_rF (ee_R rfl) rfl) (ee_aI (ee_L rfl) (ee_aI (ee_L rfl) ee_aN))) (ee_cv (yt_X3_isBelow W (ya_here σ v) a1) rfl)))))))))))))))))
def ya_X5_isRight (σ : sy_Mem) (v : Nat) (a1 : Int32) (a2 : Nat) : Bool := (if ((!(ya_X4_sees σ v (ya_sg σ 11 a1))) || ((decide (0 < (nI a2))) && (!decide ((ya_sg σ 11 a1) = (ya_ag σ 20 (-1) ((nI a2) - 1)))))) then false else (if (ya_ff (fun i => ((!(ya_X0_isFulfilled σ (nI i) (ya_X3_upward σ a1 (ya_ag σ 20 (-1) (nI i))))) || (!(ya_X5_areCodesRight σ v (ya_X3_upward σ a1 (ya_ag σ 20 (-1) (nI i))) (nI i))))) (((nI a2)).toNatClampNeg) 0).isSome then false else true))
theorem yt_X5_isRight {σ : sy_Mem} (W : ya_W σ) {v : Nat} (hv : v < 4) (a1 : Int32) (a2 : Nat) (ha2 : a2 ≤ 900) : sf_X5_isRight [.ref 0, .ref (sy_vw v), .int a1, .int (nI a2)] σ = some (.inl (some (.int (ya_b (ya_X5_isRight σ v a1 a2)))), σ) := by
  refine ee_meth ?_ rfl
  unfold sm_X5_isRight ya_X5_isRight
  exact (es_Q (es_SI (ee_M (ee_aR (ee_rF (ee_R rfl) rfl) (ee_aI (ee_L rfl) ee_aN)) (ee_cv (yt_X3_typeOf σ a1) rfl)) (es_Q (es_IB (ee_cO (ee_cN (ee_cb (ee_M (ee_aR (ee_R rfl) (ee_aR (ee_rF (ee_R rfl) rfl) (ee_aI (ee_L rfl) ee_aN))) (ee_cv (yt_X4_sees W hv (ya_sg σ 11 a1)) (yv_rc hv rfl))))) (fun h2 => (ee_cA (ee_cB (ee_L rfl) ee_K) (fun h3 => (ee_cB (ee_L rfl) (ee_M (ee_aR (ee_rF (ee_R rfl) rfl) (ee_aI (ee_B (ee_L rfl) ee_K) ee_aN)) (ee_cv (yt_X0_typeOf σ ((nI a2) - 1)) rfl))))))) (fun h1 => es_eZ0) (fun h1 => (es_N (es_Q (es_B (es_Q (es_SI ee_K0 (es_forBL (E := (fun i => [.ref 0, .ref (sy_vw v), .int a1, .int (nI a2), .int (ya_sg σ 11 a1), .int (nI i)])) (P := fun i => ((!(ya_X0_isFulfilled σ (nI i) (ya_X3_upward σ a1 (ya_ag σ 20 (-1) (nI i))))) || (!(ya_X5_areCodesRight σ v (ya_X3_upward σ a1 (ya_ag σ 20 (-1) (nI i))) (nI i))))) (j := 5) (a := 0) (fun _ => rfl) (fun i => (ee_L rfl)) (yl_nI ha2) (by decide) (fun i g1 g2 k' => es_Q (es_B (es_Q (es_SI (ee_M (ee_aR (ee_rF (ee_R rfl) rfl) (ee_aI (ee_L rfl) (ee_aI (ee_M (ee_aR (ee_rF (ee_R rfl) rfl) (ee_aI (ee_L rfl) ee_aN)) (ee_cv (yt_X0_typeOf σ (nI i)) rfl)) ee_aN))) (ee_cv (yt_X3_upward W a1 (ya_ag σ 20 (-1) (nI i))) rfl)) (es_I (ee_cO (ee_cN (ee_cb (ee_M (ee_aR (ee_rF (ee_R rfl) rfl) (ee_aI (ee_L rfl) (ee_aR (ee_rF (ee_R rfl) rfl) (ee_aI (ee_L rfl) ee_aN)))) (ee_cv (yt_X0_isFulfilled W (nI i) (ya_X3_upward σ a1 (ya_ag σ 20 (-1) (nI i)))) rfl)))) (fun h5 => (ee_cN (ee_cb (ee_M (ee_aR (ee_R rfl) (ee_aR (ee_R rfl) (ee_aI (ee_L rfl) (ee_aI (ee_L rfl) ee_aN)))) (ee_cv (yt_X5_areCodesRight W hv (ya_X3_upward σ a1 (ya_ag σ 20 (-1) (nI i))) (nI i)) rfl)))))) (fun h4 => es_eZ0) (fun h4 => (es_N (es_In1 rfl rfl)))))))) (fun h6 => es_eZ1))))))))))))
def ya_X5_firstRight (σ : sy_Mem) (v : Nat) (a1 : Nat) (a2 : Nat) (a3 : Int32) : Int32 := ((ya_ff (fun i => (((decide (a3 = (-1))) || (ya_X3_isBelow σ (ya_at σ (σ (sy_vw v) 0) (nI i)) a3)) && (ya_X5_isRight σ v (ya_at σ (σ (sy_vw v) 0) (nI i)) a1))) (((ya_cnt σ (σ (sy_vw v) 0))).toNatClampNeg - a2) a2).elim (-1) (fun i => (ya_at σ (σ (sy_vw v) 0) (nI i))))
theorem yt_X5_firstRight {σ : sy_Mem} (W : ya_W σ) {v : Nat} (hv : v < 4) (a1 : Nat) (ha1 : a1 ≤ 900) (a2 : Nat) (ha2 : a2 ≤ 900) (a3 : Int32) : sf_X5_firstRight [.ref 0, .ref (sy_vw v), .int (nI a1), .int (nI a2), .int a3] σ = some (.inl (some (.int (ya_X5_firstRight σ v a1 a2 a3))), σ) := by
  refine ee_meth ?_ rfl
  unfold sm_X5_firstRight ya_X5_firstRight
  exact (es_Q (es_SI (ee_M (ee_aR (ee_R rfl) ee_aN) (ee_cv (yt_X4_database σ hv) (yv_rc hv rfl))) (es_Q (es_B (es_Q (es_SI (ee_L rfl) (es_forPL (R := fun i => (ya_at σ (σ (sy_vw v) 0) (nI i))) (E := (fun i => [.ref 0, .ref (sy_vw v), .int (nI a1), .int (nI a2), .int a3, .int (σ (sy_vw v) 0), .int (nI i)])) (P := fun i => (((decide (a3 = (-1))) || (ya_X3_isBelow σ (ya_at σ (σ (sy_vw v) 0) (nI i)) a3)) && (ya_X5_isRight σ v (ya_at σ (σ (sy_vw v) 0) (nI i)) a1))) (j := 6) (a := a2) (fun _ => rfl) (fun i => (ee_M (ee_aR (ee_rF (ee_R rfl) rfl) (ee_aI (ee_L rfl) ee_aN)) (ee_cv (yt_X3_countOf σ (σ (sy_vw v) 0)) rfl))) (Nat.le_trans (yl_cnt W _) (by decide)) ha2 (fun i g1 g2 k' => es_Q (es_B (es_Q (es_SI (ee_M (ee_aR (ee_rF (ee_R rfl) rfl) (ee_aI (ee_L rfl) (ee_aI (ee_L rfl) ee_aN))) (ee_cv (yt_X3_segmentAt W (σ (sy_vw v) 0) (nI i)) rfl)) (es_I (ee_cA (ee_cO (ee_cB (ee_L rfl) ee_K) (fun h3 => (ee_cb (ee_M (ee_aR (ee_rF (ee_R rfl) rfl) (ee_aI (ee_L rfl) (ee_aI (ee_L rfl) ee_aN))) (ee_cv (yt_X3_isBelow W (ya_at σ (σ (sy_vw v) 0) (nI i)) a3) rfl))))) (fun h2 => (ee_cb (ee_M (ee_aR (ee_R rfl) (ee_aR (ee_R rfl) (ee_aI (ee_L rfl) (ee_aI (ee_L rfl) ee_aN)))) (ee_cv (yt_X5_isRight W hv (ya_at σ (σ (sy_vw v) 0) (nI i)) a1 ha1) rfl))))) (fun h1 => (es_eI (ee_L rfl))) (fun h1 => (es_N (es_In1 rfl rfl)))))))) (fun h4 => (es_eI ee_K)))))))))
def ya_X0_firstNew (σ : sy_Mem) : Int32 := ((ya_ff (fun i => (ya_code σ (nI i) 1)) (((σ 19 0)).toNatClampNeg) 0).elim ((σ 19 0) - 1) (fun i => (nI i)))
theorem yt_X0_firstNew {σ : sy_Mem} (W : ya_W σ) : sf_X0_firstNew [.ref 19] σ = some (.inl (some (.int (ya_X0_firstNew σ))), σ) := by
  refine ee_meth ?_ rfl
  unfold sm_X0_firstNew ya_X0_firstNew
  exact (es_Q (es_B (es_Q (es_SI ee_K0 (es_forPL (R := fun i => (nI i)) (E := (fun i => [.ref 19, .int (nI i)])) (P := fun i => (ya_code σ (nI i) 1)) (j := 1) (a := 0) (fun _ => rfl) (fun i => (ee_F (ee_R rfl) rfl)) (yl_size W) (by decide) (fun i g1 g2 k' => es_Q (es_I (ee_cb (ee_M (ee_aR (ee_R rfl) (ee_aI (ee_L rfl) (ee_aI ee_K ee_aN))) (ee_cv (yt_X0_hasCode σ (nI i) 1) rfl))) (fun h1 => (es_eI (ee_L rfl))) (fun h1 => (es_N (es_In1 rfl rfl))))) (fun h2 => (es_eI (ee_B (ee_F (ee_R rfl) rfl) ee_K))))))))
def ya_X5_areNewOnesOrdered (σ : sy_Mem) (a1 : Nat) : Bool := (if (ya_ff (fun i => ((decide (0 < (ya_ag σ 22 0 (nI i)))) || ((decide (0 < (nI i))) && (!decide ((ya_tg σ 3 (-1) (ya_ag σ 20 (-1) (nI i))) = (ya_ag σ 20 (-1) ((nI i) - 1))))))) (((σ 19 0)).toNatClampNeg - a1) a1).isSome then false else true)
theorem yt_X5_areNewOnesOrdered {σ : sy_Mem} (W : ya_W σ) (a1 : Nat) (ha1 : a1 ≤ 900) : sf_X5_areNewOnesOrdered [.ref 0, .int (nI a1)] σ = some (.inl (some (.int (ya_b (ya_X5_areNewOnesOrdered σ a1)))), σ) := by
  refine ee_meth ?_ rfl
  unfold sm_X5_areNewOnesOrdered ya_X5_areNewOnesOrdered
  exact (es_Q (es_B (es_Q (es_SI (ee_L rfl) (es_forBL (E := (fun i => [.ref 0, .int (nI a1), .int (nI i)])) (P := fun i => ((decide (0 < (ya_ag σ 22 0 (nI i)))) || ((decide (0 < (nI i))) && (!decide ((ya_tg σ 3 (-1) (ya_ag σ 20 (-1) (nI i))) = (ya_ag σ 20 (-1) ((nI i) - 1))))))) (j := 2) (a := a1) (fun _ => rfl) (fun i => (ee_M (ee_aR (ee_rF (ee_R rfl) rfl) ee_aN) (ee_cv (yt_X0_size σ) rfl))) (yl_size W) ha1 (fun i g1 g2 k' => es_Q (es_Q (es_IT (ee_cB (ee_M (ee_aR (ee_rF (ee_R rfl) rfl) (ee_aI (ee_L rfl) ee_aN)) (ee_cv (yt_X0_conditionsOf σ (nI i)) rfl)) ee_K) (fun h1 => es_eZ0) (fun h1 => (es_N (es_I (ee_cA (ee_cB (ee_L rfl) ee_K) (fun h3 => (ee_cB (ee_M (ee_aR (ee_rF (ee_R rfl) rfl) (ee_aI (ee_M (ee_aR (ee_rF (ee_R rfl) rfl) (ee_aI (ee_L rfl) ee_aN)) (ee_cv (yt_X0_typeOf σ (nI i)) rfl)) ee_aN)) (ee_cv (yt_X2_parentOf W (ya_ag σ 20 (-1) (nI i))) rfl)) (ee_M (ee_aR (ee_rF (ee_R rfl) rfl) (ee_aI (ee_B (ee_L rfl) ee_K) ee_aN)) (ee_cv (yt_X0_typeOf σ ((nI i) - 1)) rfl))))) (fun h2 => es_eZ0) (fun h2 => (es_N (es_In1 rfl rfl))))))))) (fun h4 => es_eZ1))))))
def ya_X5_wouldChangeKey (σ : sy_Mem) (v : Nat) : Bool := (if (ya_ff (fun i => (((!decide ((ya_tg σ 5 (-1) (ya_sg σ 11 (ya_held σ v (nI i)))) = 2)) && (!(ya_kept σ v (nI i)))) && (!decide ((ya_N σ (ya_held σ v (nI i)) 0) = (ya_slot σ (nI i) 0))))) (((σ (sy_vw v) 6)).toNatClampNeg) 0).isSome then true else false)
theorem yt_X5_wouldChangeKey {σ : sy_Mem} (W : ya_W σ) {v : Nat} (hv : v < 4) : sf_X5_wouldChangeKey [.ref 0, .ref (sy_vw v)] σ = some (.inl (some (.int (ya_b (ya_X5_wouldChangeKey σ v)))), σ) := by
  refine ee_meth ?_ rfl
  unfold sm_X5_wouldChangeKey ya_X5_wouldChangeKey
  exact (es_Q (es_B (es_Q (es_SI ee_K0 (es_forBL (E := (fun i => [.ref 0, .ref (sy_vw v), .int (nI i)])) (P := fun i => (((!decide ((ya_tg σ 5 (-1) (ya_sg σ 11 (ya_held σ v (nI i)))) = 2)) && (!(ya_kept σ v (nI i)))) && (!decide ((ya_N σ (ya_held σ v (nI i)) 0) = (ya_slot σ (nI i) 0))))) (j := 2) (a := 0) (fun _ => rfl) (fun i => (ee_M (ee_aR (ee_R rfl) ee_aN) (ee_cv (yt_X4_heldCount σ hv) (yv_rc hv rfl)))) (yl_hold W hv) (by decide) (fun i g1 g2 k' => es_Q (es_B (es_Q (es_SI (ee_M (ee_aR (ee_R rfl) (ee_aI (ee_L rfl) ee_aN)) (ee_cv (yt_X4_heldAt σ hv (nI i)) (yv_rc hv rfl))) (es_Q (es_SI (ee_iC (ee_cB (ee_M (ee_aR (ee_rF (ee_R rfl) rfl) (ee_aI (ee_M (ee_aR (ee_rF (ee_R rfl) rfl) (ee_aI (ee_L rfl) ee_aN)) (ee_cv (yt_X3_typeOf σ (ya_held σ v (nI i))) rfl)) ee_aN)) (ee_cv (yt_X2_keysOf W (ya_sg σ 11 (ya_held σ v (nI i)))) rfl)) ee_K)) (es_I (ee_cA (ee_cA (ee_cb (ee_L rfl)) (fun h3 => (ee_cN (ee_cb (ee_M (ee_aR (ee_R rfl) (ee_aI (ee_L rfl) ee_aN)) (ee_cv (yt_X4_isKept σ hv (nI i)) (yv_rc hv rfl))))))) (fun h2 => (ee_cB (ee_M (ee_aR (ee_rF (ee_R rfl) rfl) (ee_aI (ee_L rfl) (ee_aI ee_K ee_aN))) (ee_cv (yt_X3_numberOf σ (ya_held σ v (nI i)) 0) rfl)) (ee_M (ee_aR (ee_R rfl) (ee_aI (ee_L rfl) (ee_aI ee_K ee_aN))) (ee_cv (yt_X5_slotNumber σ (nI i) 0) rfl))))) (fun h1 => es_eZ1) (fun h1 => (es_N (es_In1 rfl rfl)))))))))) (fun h4 => es_eZ0))))))
def ya_X5_isBound (σ : sy_Mem) (a1 : Int32) : Bool := (if (ya_ff (fun i => (((ya_X3_isTied σ (nI i) a1) && (decide ((ya_tg σ 9 (-1) (ya_sg σ 11 (nI i))) = 0))) && (!(ya_X3_isDoomed σ (nI i))))) (60) 0).isSome then true else false)
theorem yt_X5_isBound {σ : sy_Mem} (W : ya_W σ) (a1 : Int32) : sf_X5_isBound [.ref 0, .int a1] σ = some (.inl (some (.int (ya_b (ya_X5_isBound σ a1)))), σ) := by
  refine ee_meth ?_ rfl
  unfold sm_X5_isBound ya_X5_isBound
  exact (es_Q (es_B (es_Q (es_SI ee_K0 (es_forBL (E := (fun i => [.ref 0, .int a1, .int (nI i)])) (P := fun i => (((ya_X3_isTied σ (nI i) a1) && (decide ((ya_tg σ 9 (-1) (ya_sg σ 11 (nI i))) = 0))) && (!(ya_X3_isDoomed σ (nI i))))) (j := 2) (a := 0) (fun _ => rfl) (fun i => ee_K) (by decide) (by decide) (fun i g1 g2 k' => es_Q (es_B (es_Q (es_SI (ee_iC (ee_cA (ee_cb (ee_M (ee_aR (ee_rF (ee_R rfl) rfl) (ee_aI (ee_L rfl) (ee_aI (ee_L rfl) ee_aN))) (ee_cv (yt_X3_isTied W (nI i) a1) rfl))) (fun h1 => (ee_cB (ee_M (ee_aR (ee_rF (ee_R rfl) rfl) (ee_aI (ee_M (ee_aR (ee_rF (ee_R rfl) rfl) (ee_aI (ee_L rfl) ee_aN)) (ee_cv (yt_X3_typeOf σ (nI i)) rfl)) ee_aN)) (ee_cv (yt_X2_goingOf W (ya_sg σ 11 (nI i))) rfl)) ee_K)))) (es_I (ee_cA (ee_cb (ee_L rfl)) (fun h3 => (ee_cN (ee_cb (ee_M (ee_aR (ee_rF (ee_R rfl) rfl) (ee_aI (ee_L rfl) ee_aN)) (ee_cv (yt_X3_isDoomed W (nI i)) rfl)))))) (fun h2 => es_eZ1) (fun h2 => (es_N (es_In1 rfl rfl)))))))) (fun h4 => es_eZ0))))))
def ya_X5_countAhead (σ : sy_Mem) (v : Nat) : Int32 := (if (!decide ((σ (sy_vw v) 4) = 0)) then (ya_cnt σ (σ (sy_vw v) 0)) else (if (decide ((ya_sg σ 17 (σ (sy_vw v) 2)) = (-1))) then 0 else (ya_sg σ 17 (σ (sy_vw v) 2))))
theorem yt_X5_countAhead {σ : sy_Mem} (W : ya_W σ) {v : Nat} (hv : v < 4) : sf_X5_countAhead [.ref 0, .ref (sy_vw v)] σ = some (.inl (some (.int (ya_X5_countAhead σ v))), σ) := by
  refine ee_meth ?_ rfl
  unfold sm_X5_countAhead ya_X5_countAhead
  exact (es_Q (es_IP (ee_cI (ee_M (ee_aR (ee_R rfl) ee_aN) (ee_cv (yt_X4_isBehindAll σ hv (yl_v4 W hv)) (yv_rc hv rfl)))) (fun h1 => (es_eI (ee_M (ee_aR (ee_rF (ee_R rfl) rfl) (ee_aI (ee_M (ee_aR (ee_R rfl) ee_aN) (ee_cv (yt_X4_database σ hv) (yv_rc hv rfl))) ee_aN)) (ee_cv (yt_X3_countOf σ (σ (sy_vw v) 0)) rfl)))) (fun h1 => (es_N (es_Q (es_SI (ee_M (ee_aR (ee_rF (ee_R rfl) rfl) (ee_aI (ee_M (ee_aR (ee_R rfl) ee_aN) (ee_cv (yt_X4_mark σ hv) (yv_rc hv rfl))) ee_aN)) (ee_cv (yt_X3_placeOf σ (σ (sy_vw v) 2)) rfl)) (es_eI (ee_iQ (ee_cB (ee_L rfl) ee_K) (fun h2 => ee_K) (fun h2 => (ee_L rfl))))))))))
def ya_X5_placeBehind (σ : sy_Mem) (v : Nat) : Int32 := (if (decide ((ya_here σ v) = (-1))) then (ya_X5_countAhead σ v) else ((ya_X5_countAhead σ v) + 1))
theorem yt_X5_placeBehind {σ : sy_Mem} (W : ya_W σ) {v : Nat} (hv : v < 4) : sf_X5_placeBehind [.ref 0, .ref (sy_vw v)] σ = some (.inl (some (.int (ya_X5_placeBehind σ v))), σ) := by
  refine ee_meth ?_ rfl
  unfold sm_X5_placeBehind ya_X5_placeBehind
  exact (es_Q (es_SI (ee_M (ee_aR (ee_R rfl) (ee_aR (ee_R rfl) ee_aN)) (ee_cv (yt_X5_countAhead W hv) rfl)) (es_eI (ee_iQ (ee_cB (ee_M (ee_aR (ee_R rfl) ee_aN) (ee_cv (yt_X4_segmentAt σ hv) (yv_rc hv rfl))) ee_K) (fun h1 => (ee_L rfl)) (fun h1 => (ee_B (ee_L rfl) ee_K))))))
def ya_X4_lastHeld (σ : sy_Mem) (v : Nat) : Int32 := (ya_held σ v ((σ (sy_vw v) 6) - 1))
theorem yt_X4_lastHeld {σ : sy_Mem} (W : ya_W σ) {v : Nat} (hv : v < 4) : sf_X4_lastHeld [.ref (sy_vw v)] σ = some (.inl (some (.int (ya_X4_lastHeld σ v))), σ) := by
  refine ee_meth ?_ rfl
  unfold sm_X4_lastHeld ya_X4_lastHeld
  exact (es_eI (ee_M (ee_aR (ee_R rfl) (ee_aI (ee_B (ee_F (ee_R rfl) (yv_I hv (by decide))) ee_K) ee_aN)) (ee_cv (yt_X4_heldAt σ hv ((σ (sy_vw v) 6) - 1)) (yv_rc hv rfl))))
def ya_X5_statusOfStep (σ : sy_Mem) (a1 : Int32) (a2 : Int32) : Int32 := (if ((decide (0 < (σ 19 0))) || (decide (a1 = (-1)))) then 0 else (if (decide ((ya_tg σ 4 0 (ya_sg σ 11 a2)) < (ya_tg σ 4 0 (ya_sg σ 11 a1)))) then 1 else (if ((decide ((ya_tg σ 4 0 (ya_sg σ 11 a2)) = (ya_tg σ 4 0 (ya_sg σ 11 a1)))) && (!decide ((ya_sg σ 11 a2) = (ya_sg σ 11 a1)))) then 2 else 0)))
theorem yt_X5_statusOfStep {σ : sy_Mem} (W : ya_W σ) (a1 : Int32) (a2 : Int32) : sf_X5_statusOfStep [.ref 0, .int a1, .int a2] σ = some (.inl (some (.int (ya_X5_statusOfStep σ a1 a2))), σ) := by
  refine ee_meth ?_ rfl
  unfold sm_X5_statusOfStep ya_X5_statusOfStep
  exact (es_Q (es_IP (ee_cO (ee_cB (ee_M (ee_aR (ee_rF (ee_R rfl) rfl) ee_aN) (ee_cv (yt_X0_size σ) rfl)) ee_K) (fun h2 => (ee_cB (ee_L rfl) ee_K))) (fun h1 => (es_eI ee_K)) (fun h1 => (es_N (es_Q (es_SI (ee_M (ee_aR (ee_rF (ee_R rfl) rfl) (ee_aI (ee_M (ee_aR (ee_rF (ee_R rfl) rfl) (ee_aI (ee_L rfl) ee_aN)) (ee_cv (yt_X3_typeOf σ a1) rfl)) ee_aN)) (ee_cv (yt_X2_levelOf W (ya_sg σ 11 a1)) rfl)) (es_Q (es_SI (ee_M (ee_aR (ee_rF (ee_R rfl) rfl) (ee_aI (ee_M (ee_aR (ee_rF (ee_R rfl) rfl) (ee_aI (ee_L rfl) ee_aN)) (ee_cv (yt_X3_typeOf σ a2) rfl)) ee_aN)) (ee_cv (yt_X2_levelOf W (ya_sg σ 11 a2)) rfl)) (es_Q (es_IP (ee_cB (ee_L rfl) (ee_L rfl)) (fun h3 => (es_eI ee_K)) (fun h3 => (es_N (es_eI (ee_iQ (ee_cA (ee_cB (ee_L rfl) (ee_L rfl)) (fun h4 => (ee_cB (ee_M (ee_aR (ee_rF (ee_R rfl) rfl) (ee_aI (ee_L rfl) ee_aN)) (ee_cv (yt_X3_typeOf σ a2) rfl)) (ee_M (ee_aR (ee_rF (ee_R rfl) rfl) (ee_aI (ee_L rfl) ee_aN)) (ee_cv (yt_X3_typeOf σ a1) rfl))))) (fun h5 => ee_K) (fun h5 => ee_K)))))))))))))))
end YR
