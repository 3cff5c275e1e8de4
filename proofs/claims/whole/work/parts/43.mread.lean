/-! the model's readers, told by the component's memory; printed by wip/whole/gen/gen43.py -/
section YQ
variable {A σ : sy_Mem} {t : Nat}
theorem ym_placeOf (M : yr_M A σ) (I : yn_I t A) (s : Int32) (hs : yl A s) : sf_X6_placeOf [.ref 44, .int s] σ = some (.inl (some (.int (yL A s))), σ) := by
  obtain ⟨h1, h2, h3⟩ := I.2.2.1.2.2.1 s hs
  have hd := yl_sD I.1 I.2.1 hs
  have h60 : (ya_cnt A (sD A s)).toInt ≤ 60 := by
    rw [ya_cnt_in hd]
    exact (I.2.2.1.1 _ (by rw [yi_clampInt]; omega)).2
  have hn : (yL A s).toNatClampNeg < 60 := by rw [yi_clampInt]; omega
  have hnn : (yL A s).toInt = ((yL A s).toNatClampNeg : Int) := by rw [yi_clampInt]; omega
  refine ee_meth ?_ rfl
  unfold sm_X6_placeOf
  refine es_Q (es_SI (em_45 M I (ee_rF (ee_R rfl) rfl) (em_53 M (ee_rF (ee_R rfl) rfl) (ee_L rfl) (yl_in hs)) (I.2.1.1 s hs).1) (es_Q (es_SI ee_K0 (es_Q ?_))))
  have hc : ∀ i, i ≤ (yL A s).toNatClampNeg → sy_cne (sy_iM (sy_cv 6 2 sf_X6_segmentAt) (sy_aR (sy_rL 0) (sy_aI (sy_iL 2) (sy_aI (sy_iL 3) sy_aN)))) (sy_iL 1) [.ref 44, .int s, .int (sD A s), .int (nI i)] σ = some (.inl (!decide (ya_at A (sD A s) (nI i) = s)), σ) := fun i hi =>
    ee_cB (ee_M (ee_aR (ee_R rfl) (ee_aI (ee_L rfl) (ee_aI (ee_L rfl) ee_aN))) (ee_cv (ym_segmentAt M I (sD A s) (nI i) hd (by rw [nI_toInt (by omega)]; omega)) rfl)) (ee_L rfl)
  refine es_loop (E := fun i => [.ref 44, .int s, .int (sD A s), .int (nI i)]) (S := fun _ => σ) (yL A s).toNatClampNeg 0 1000 (by omega) (fun i _ hi => ?_) ?_ (fun i _ hi k' => es_In1 rfl rfl) ?_
  · refine (hc i (by omega)).trans ?_
    rw [decide_eq_false]
    · rfl
    · intro e
      have h4 := (I.2.2.1.2.2.2 (sD A s) (nI i) hd.1 hd.2 (by rw [nI_toInt (by omega)]; omega) (by rw [nI_toInt (by omega)]; omega)).2.2
      rw [e] at h4
      have h5 := congrArg Int32.toInt h4
      rw [nI_toInt (by omega)] at h5
      omega
  · refine (hc _ (by omega)).trans ?_
    rw [Nat.zero_add, ← yi_nat (yi_pos.mpr h1), h3, decide_eq_true rfl]
    rfl
  · refine (es_eI (k := fun _ => sy_fail) (ee_L rfl)).trans ?_
    rw [Nat.zero_add, ← yi_nat (yi_pos.mpr h1)]
theorem ym_sees (M : yr_M A σ) (I : yn_I t A) {v : Nat} (hv : v < 4) (u : Int32) (hu : ya_isT A u = true) : sf_X6_sees [.ref 44, .int (nI v), .int u] σ = some (.inl (some (.int (ya_b (ya_X4_sees A v u)))), σ) := by
  have e0 : (decide (tD A u = A (sy_vw v) 0) && (ya_walk (fun x => tP A x) (fun x => decide (((A (sy_vw v) 1) >>> (x &&& 31)) &&& 1 = 0)) 4 u).isNone) = ya_X4_sees A v u := by
    unfold ya_X4_sees
    cases hw : ya_walk (fun x => ya_tg A 3 (-1) x) (fun x => decide (((A (sy_vw v) 1) >>> (x &&& 31)) &&& 1 = 0)) 4 u <;> cases hd : decide (tD A u = A (sy_vw v) 0) <;> rfl
  rw [← e0]
  refine ee_meth ?_ rfl
  unfold sm_X6_sees
  refine es_Q (es_SI (ee_iC (ee_cB (em_45 M I (ee_rF (ee_R rfl) rfl) (ee_L rfl) hu) (em_59 M hv (ee_rF (ee_R rfl) rfl) (ee_L rfl)))) (es_Q (es_B (es_Q (es_SI (ee_L rfl) ?_)))))
  have key : ∀ (n m : Nat) (x : Int32) (b : Bool), (x = -1 ∨ ya_isT A x = true) → ya_dp (tP A) n x → n < m → sy_wh (sy_cne (sy_iL 4) (sy_iK (-1))) (sy_sQ (sy_sSI 3 (sy_iC (sy_cA (sy_cI (sy_iL 3)) (sy_ceq (sy_iAnd (sy_iShr (sy_iA 0 (sy_rF 6 16 (sy_rL 0)) (sy_iL 1)) (sy_iL 4)) (sy_iK 1)) (sy_iK 1))))) (sy_sSI 4 (sy_iA 0 (sy_rF 6 2 (sy_rL 0)) (sy_iL 4)))) m [.ref 44, .int (nI v), .int u, .int (ya_b b), .int x] (fun env' => sy_eZ (sy_iL 3) (env'.take 4) (fun _ => sy_fail)) σ = some (.inl (some (.int (ya_b (b && (ya_walk (fun x => tP A x) (fun x => decide (((A (sy_vw v) 1) >>> (x &&& 31)) &&& 1 = 0)) n x).isNone)))), σ) := by
    intro n
    induction n with
    | zero =>
      intro m x b hx hd hm
      obtain ⟨m, rfl⟩ : ∃ q, m = q + 1 := ⟨m - 1, by omega⟩
      have hd : x = -1 := hd
      subst hd
      unfold sy_wh ya_walk
      rw [sy_bnd_at (ee_cB (ee_L rfl) ee_K), decide_eq_true rfl, Option.isNone_none, Bool.and_true]
      exact es_eZb (k := fun _ => sy_fail) (ee_L rfl)
    | succ n ih =>
      intro m x b hx hd hm
      obtain ⟨m, rfl⟩ : ∃ q, m = q + 1 := ⟨m - 1, by omega⟩
      unfold sy_wh ya_walk
      rw [sy_bnd_at (ee_cB (ee_L rfl) ee_K)]
      by_cases he : x = -1
      · rw [decide_eq_true he, if_pos he, Option.isNone_none, Bool.and_true]
        exact es_eZb (k := fun _ => sy_fail) (ee_L rfl)
      · rw [decide_eq_false he, if_neg he]
        have hx := hx.resolve_left he
        refine es_Q (es_SI (ee_iC (ee_cA (ee_cb (ee_L rfl)) (fun _ => ee_cB (ee_B (ee_B (em_60 M hv (ee_rF (ee_R rfl) rfl) (ee_L rfl)) (ee_L rfl)) ee_K) ee_K))) (es_SI (em_46 M I (ee_rF (ee_R rfl) rfl) (ee_L rfl) hx) ?_))
        refine (ih m (tP A x) _ (yk_GT I.1 x hx) (hd.resolve_left he) (by omega)).trans ?_
        rw [yi_and1]
        cases hq : decide (((A (sy_vw v) 1) >>> (x &&& 31)) &&& 1 = 0) <;> cases b <;> rfl
  exact key 4 1000 u _ (Or.inr hu) (yk_dpT4 I.1 hu) (by decide)
theorem yk_ful {isor met : Nat → Bool} : ∀ (n i : Nat) (p : Bool), ya_ful isor met (n + 1) i p = (((decide (0 < i) && isor i) && p) || ya_ful isor met n (i + 1) ((p || (decide (0 < i) && isor i)) && met i)) := by
  intro n i p
  rw [show ya_ful isor met (n + 1) i p = if decide (0 < i) && isor i then (if p then true else ya_ful isor met n (i + 1) (met i)) else ya_ful isor met n (i + 1) (p && met i) from rfl]
  cases hq : (decide (0 < i) && isor i) <;> cases p <;> simp
theorem ym_fulfils (M : yr_M A σ) (I : yn_I t A) (s : Int32) (a : Nat) (hs : yl A s) (ha : (a : Int) < (A 19 0).toInt) : sf_X6_fulfils [.ref 44, .int s, .int (nI a)] σ = some (.inl (some (.int (ya_b (ya_X0_isFulfilled A (nI a) s)))), σ) := by
  have h4 := I.2.2.2.2.2.2.1.2
  obtain ⟨_, _, hc3, hcs⟩ := I.2.2.2.2.2.2.2.1 a ha
  have hA := yl_An ha h4
  have eN : min (ya_ag A 22 0 (nI a)).toNatClampNeg 3 = (A 22 a).toNatClampNeg := by
    rw [ya_ag_in hA, nI_clamp (by omega), yi_clampInt]
    omega
  have eC : (A 22 a).toInt = ((A 22 a).toNatClampNeg : Int) := by rw [yi_clampInt]; omega
  refine ee_meth ?_ rfl
  unfold sm_X6_fulfils
  refine es_Q (es_SI (x := ya_b false) ee_K (es_Q (es_SI (x := ya_b true) ee_K (es_Q (es_B (es_Q (es_SI ee_K0 ?_)))))))
  unfold ya_X0_isFulfilled
  rw [eN, nI_clamp (by omega)]
  have key : ∀ (n i m : Nat) (q p : Bool), i + n = (A 22 a).toNatClampNeg → n < m → sy_wh (sy_clt (sy_iL 5) (sy_iA 0 (sy_rF 6 27 (sy_rL 0)) (sy_iL 2))) (sy_sQ (sy_sB 6 (sy_sQ (sy_sSI 6 (sy_iAdd (sy_iMul (sy_iK 3) (sy_iL 2)) (sy_iL 5))) (sy_sQ (sy_sI (sy_cA (sy_cgt (sy_iL 5) (sy_iK 0)) (sy_cI (sy_iA 1 (sy_rF 6 28 (sy_rL 0)) (sy_iL 6)))) (sy_sQ (sy_sSI 3 (sy_iC (sy_cO (sy_cI (sy_iL 3)) (sy_cI (sy_iL 4))))) (sy_sSI 4 (sy_iK 1))) sy_sN) (sy_sSI 4 (sy_iC (sy_cA (sy_cI (sy_iL 4)) (sy_cI (sy_iM (sy_cs 3 sf_X6_compares) (sy_aI (sy_iA 0 (sy_rF 6 11 (sy_rL 0)) (sy_iAdd (sy_iMul (sy_iK 3) (sy_iL 1)) (sy_iA 0 (sy_rF 6 29 (sy_rL 0)) (sy_iL 6)))) (sy_aI (sy_iA 0 (sy_rF 6 30 (sy_rL 0)) (sy_iL 6)) (sy_aI (sy_iA 0 (sy_rF 6 31 (sy_rL 0)) (sy_iL 6)) sy_aN))))))))))) (sy_sIn 5 1)) m [.ref 44, .int s, .int (nI a), .int (ya_b q), .int (ya_b p), .int (nI i)] (fun env' => sy_eZ (sy_iC (sy_cO (sy_cI (sy_iL 3)) (sy_cI (sy_iL 4)))) (env'.take 5) (fun _ => sy_fail)) σ = some (.inl (some (.int (ya_b (q || ya_ful (fun i => !decide (A 23 (3 * a + i) = 0)) (fun i => ya_met (A 25 (3 * a + i)) (ya_N A s (A 24 (3 * a + i))) (A 26 (3 * a + i))) n i p)))), σ) := by
    intro n
    have hcond : ∀ (i : Nat) (q p : Bool), i < 2000 → sy_clt (sy_iL 5) (sy_iA 0 (sy_rF 6 27 (sy_rL 0)) (sy_iL 2)) [.ref 44, .int s, .int (nI a), .int (ya_b q), .int (ya_b p), .int (nI i)] σ = some (.inl (decide (i < (A 22 a).toNatClampNeg)), σ) := fun i q p hi => by
      refine (ee_cB (ee_L rfl) (em_69 M I (ee_rF (ee_R rfl) rfl) (ee_L rfl) ha)).trans ?_
      rw [ya_ag_in hA, nI_clamp (by omega), yi_ltB (by omega)]
    induction n with
    | zero =>
      intro i m q p hi hm
      obtain ⟨m, rfl⟩ : ∃ z, m = z + 1 := ⟨m - 1, by omega⟩
      unfold sy_wh
      rw [sy_bnd_at (hcond i q p (by omega)), decide_eq_false (by omega)]
      exact es_eZb (k := fun _ => sy_fail) (ee_iC (ee_cO (ee_cb (ee_L rfl)) (fun _ => ee_cb (ee_L rfl))))
    | succ n ih =>
      intro i m q p hi hm
      obtain ⟨m, rfl⟩ : ∃ z, m = z + 1 := ⟨m - 1, by omega⟩
      have e := yl_ix (x := nI a) (y := nI i) (n := 4) (m := 3) yl_c3 (by rw [nI_toInt (by omega)]; omega) (by rw [nI_toInt (by omega)]; omega) (by omega) (by rw [nI_toInt (by omega)]; omega) (by rw [nI_toInt (by omega)]; omega)
      rw [Int32.mul_comm] at e
      have e2 := e.2.1
      rw [nI_clamp (by omega), nI_clamp (by omega)] at e2
      have hf := (hcs i (by omega)).2
      unfold sy_wh
      rw [sy_bnd_at (hcond i q p (by omega)), decide_eq_true (by omega), yk_ful]
      have hrest : ∀ q p : Bool, (sy_sSI 4 (sy_iC (sy_cA (sy_cI (sy_iL 4)) (sy_cI (sy_iM (sy_cs 3 sf_X6_compares) (sy_aI (sy_iA 0 (sy_rF 6 11 (sy_rL 0)) (sy_iAdd (sy_iMul (sy_iK 3) (sy_iL 1)) (sy_iA 0 (sy_rF 6 29 (sy_rL 0)) (sy_iL 6)))) (sy_aI (sy_iA 0 (sy_rF 6 30 (sy_rL 0)) (sy_iL 6)) (sy_aI (sy_iA 0 (sy_rF 6 31 (sy_rL 0)) (sy_iL 6)) sy_aN)))))))) [.ref 44, .int s, .int (nI a), .int (ya_b q), .int (ya_b p), .int (nI i), .int (3 * nI a + nI i)] (fun env' => sy_sIn 5 1 (env'.take 6) (fun env' => sy_wh (sy_clt (sy_iL 5) (sy_iA 0 (sy_rF 6 27 (sy_rL 0)) (sy_iL 2))) (sy_sQ (sy_sB 6 (sy_sQ (sy_sSI 6 (sy_iAdd (sy_iMul (sy_iK 3) (sy_iL 2)) (sy_iL 5))) (sy_sQ (sy_sI (sy_cA (sy_cgt (sy_iL 5) (sy_iK 0)) (sy_cI (sy_iA 1 (sy_rF 6 28 (sy_rL 0)) (sy_iL 6)))) (sy_sQ (sy_sSI 3 (sy_iC (sy_cO (sy_cI (sy_iL 3)) (sy_cI (sy_iL 4))))) (sy_sSI 4 (sy_iK 1))) sy_sN) (sy_sSI 4 (sy_iC (sy_cA (sy_cI (sy_iL 4)) (sy_cI (sy_iM (sy_cs 3 sf_X6_compares) (sy_aI (sy_iA 0 (sy_rF 6 11 (sy_rL 0)) (sy_iAdd (sy_iMul (sy_iK 3) (sy_iL 1)) (sy_iA 0 (sy_rF 6 29 (sy_rL 0)) (sy_iL 6)))) (sy_aI (sy_iA 0 (sy_rF 6 30 (sy_rL 0)) (sy_iL 6)) (sy_aI (sy_iA 0 (sy_rF 6 31 (sy_rL 0)) (sy_iL 6)) sy_aN))))))))))) (sy_sIn 5 1)) m env' (fun env' => sy_eZ (sy_iC (sy_cO (sy_cI (sy_iL 3)) (sy_cI (sy_iL 4)))) (env'.take 5) (fun _ => sy_fail)))) σ = some (.inl (some (.int (ya_b (q || ya_ful (fun i => !decide (A 23 (3 * a + i) = 0)) (fun i => ya_met (A 25 (3 * a + i)) (ya_N A s (A 24 (3 * a + i))) (A 26 (3 * a + i))) n (i + 1) (p && ya_met (A 25 (3 * a + i)) (ya_N A s (A 24 (3 * a + i))) (A 26 (3 * a + i))))))), σ) := by
        intro q p
        have a71 : ∀ {env : List Value}, env[6]? = some (.int (3 * nI a + nI i)) → env[0]? = some (.ref 44) → sy_iA 0 (sy_rF 6 29 (sy_rL 0)) (sy_iL 6) env σ = some (.inl (A 24 (3 * a + i)), σ) := fun h6 h0 => by
          rw [ee_A (kd := 0) (a := 71) (ee_rF (ee_R h0) rfl) (ee_L h6) e.2.2, e2, M.2.2.2.2.2.2.2.2.1]
        have a72 : ∀ {env : List Value}, env[6]? = some (.int (3 * nI a + nI i)) → env[0]? = some (.ref 44) → sy_iA 0 (sy_rF 6 30 (sy_rL 0)) (sy_iL 6) env σ = some (.inl (A 25 (3 * a + i)), σ) := fun h6 h0 => by
          rw [ee_A (kd := 0) (a := 72) (ee_rF (ee_R h0) rfl) (ee_L h6) e.2.2, e2, M.2.2.2.2.2.2.2.2.2.1]
        have a73 : ∀ {env : List Value}, env[6]? = some (.int (3 * nI a + nI i)) → env[0]? = some (.ref 44) → sy_iA 0 (sy_rF 6 31 (sy_rL 0)) (sy_iL 6) env σ = some (.inl (A 26 (3 * a + i)), σ) := fun h6 h0 => by
          rw [ee_A (kd := 0) (a := 73) (ee_rF (ee_R h0) rfl) (ee_L h6) e.2.2, e2, M.2.2.2.2.2.2.2.2.2.2.1]
        refine es_SI (ee_iC (ee_cA (ee_cb (ee_L rfl)) (fun _ => ee_cb (ee_M (ee_aI (em_55 M (ee_rF (ee_R rfl) rfl) (ee_L rfl) (a71 rfl rfl) (yl_in hs) hf) (ee_aI (a72 rfl rfl) (ee_aI (a73 rfl rfl) ee_aN))) (ee_cs (ym_compares σ _ _ _) rfl))))) (es_In1 rfl ?_)
        exact ih (i + 1) m q _ (by omega) (by omega)
      refine es_Q (es_B (es_Q (es_SI (ee_B (ee_B ee_K (ee_L rfl)) (ee_L rfl)) (es_Q ?_))))
      have hor : sy_cA (sy_cgt (sy_iL 5) (sy_iK 0)) (sy_cI (sy_iA 1 (sy_rF 6 28 (sy_rL 0)) (sy_iL 6))) [.ref 44, .int s, .int (nI a), .int (ya_b q), .int (ya_b p), .int (nI i), .int (3 * nI a + nI i)] σ = some (.inl (decide (0 < i) && !decide (A 23 (3 * a + i) = 0)), σ) := by
        refine (ee_cA (ee_cB (ee_L rfl) ee_K) (fun _ => ee_cI (ee_A (kd := 1) (a := 70) (ee_rF (ee_R rfl) rfl) (ee_L rfl) e.2.2))).trans ?_
        rw [e2, M.2.2.2.2.2.2.2.1, show decide (0 < nI i) = decide (0 < i) from decide_eq_decide.mpr (by rw [Int32.lt_iff_toInt_lt, nI_toInt (by omega), yl_c0]; omega)]
      unfold sy_sI
      refine (sy_bnd_at hor).trans ?_
      cases ho : (decide (0 < i) && !decide (A 23 (3 * a + i) = 0)) with
      | true =>
        refine es_Q (es_SI (ee_iC (ee_cO (ee_cb (ee_L rfl)) (fun _ => ee_cb (ee_L rfl)))) (es_SI (x := ya_b true) ee_K ?_))
        refine (hrest (q || p) true).trans ?_
        simp only [Bool.true_and, Bool.or_assoc, Bool.or_true]
      | false =>
        refine (hrest q p).trans ?_
        rw [Bool.false_and, Bool.false_or, Bool.or_false]
  exact key _ 0 1000 false true (by omega) (by omega)

theorem em_67x {env : List Value} {r : sy_RE} {i : sy_IE} {x : Int32} (M : yr_M A σ) (I : yn_I t A) (hr : r env σ = some (.inl 67, σ)) (hi : i env σ = some (.inl x, σ)) (h : ya_isA A x = true) : sy_iA 0 r i env σ = some (.inl (ya_ag A 20 (-1) x), σ) := by
  rw [ee_A (kd := 0) hr hi (yl_isAi h rfl), M.2.2.2.2.1, ya_ag_in h]
theorem es_c60 {env : List Value} {i j : Nat} (h : env[j]? = some (.int (nI i))) (hi : i ≤ 60) : sy_clt (sy_iL j) (sy_iK 60) env σ = some (.inl (decide (i < 60)), σ) :=
  (ee_cB (ee_L h) ee_K).trans (by rw [show decide (nI i < 60) = decide (i < 60) from yi_lt (N := 60) rfl (by omega) (by omega)])
theorem es_cB {env : List Value} {i j : Nat} {e : sy_IE} {B : Int32} (h : env[j]? = some (.int (nI i))) (he : e env σ = some (.inl B, σ)) (hi : i < 2000) : sy_clt (sy_iL j) e env σ = some (.inl (decide (i < B.toNatClampNeg)), σ) :=
  (ee_cB (ee_L h) he).trans (by rw [yi_ltB (by omega)])
theorem yg_60 {i : Nat} (h : i < 60) : 0 ≤ (nI i).toInt ∧ (nI i).toInt < 60 := by rw [nI_toInt (by omega)]; omega
theorem yg_n19 (I : yn_I t A) : (A 19 0).toInt = ((A 19 0).toNatClampNeg : Int) ∧ (A 19 0).toNatClampNeg ≤ 4 := by
  have := I.2.2.2.2.2.2.1
  rw [yi_clampInt]
  omega
theorem yg_arg (I : yn_I t A) {j : Nat} (h : (j : Int) < (A 19 0).toInt) : ya_isT A (ya_ag A 20 (-1) (nI j)) = true := by
  have h4 := I.2.2.2.2.2.2.1.2
  rw [ya_ag_in (yl_An h h4), nI_clamp (by omega)]
  exact (I.2.2.2.2.2.2.2.1 j h).1
theorem yg_tw1 {x : Int32} {p : Bool} (h : ((!decide (ya_sg A 11 x = -1)) && p) = true) : yl A x := by
  rw [Bool.and_eq_true] at h
  simpa [yl] using h.1
theorem yg_tw2 {x : Int32} {p q : Bool} (h : (((!decide (ya_sg A 11 x = -1)) && p) && q) = true) : yl A x := by
  rw [Bool.and_eq_true] at h
  exact yg_tw1 h.1
theorem yg_tw3 {x : Int32} {p q r : Bool} (h : ((((!decide (ya_sg A 11 x = -1)) && p) && q) && r) = true) : yl A x := by
  rw [Bool.and_eq_true] at h
  exact yg_tw2 h.1
theorem yg_isNone {o : Option Nat} : o.isNone = !o.isSome := by cases o <;> rfl
theorem yg_ite {b : Bool} : (if b = true then true else false) = b := by cases b <;> rfl
theorem yg_iteN {b : Bool} : (if b = true then false else true) = !b := by cases b <;> rfl
theorem yg_pred (I : yn_I t A) {a : Nat} (h : ¬ nI a = 0) (ha : (a : Int) ≤ (A 19 0).toInt) : nI a - 1 = nI (a - 1) ∧ ya_isA A (nI a - 1) = true := by
  have h4 := yg_n19 I
  have h0 : a ≠ 0 := by
    intro e
    subst e
    exact h nI_0
  have e : nI a - 1 = nI (a - 1) := by
    obtain ⟨b, rfl⟩ : ∃ b, a = b + 1 := ⟨a - 1, by omega⟩
    rw [nI_pred, show b + 1 - 1 = b by omega]
  refine ⟨e, ?_⟩
  rw [e]
  exact yl_An (by omega) (by omega)
/-- what is found above is there, and of the type -/
theorem yg_upw (I : yn_I t A) : ∀ (n : Nat) {s u : Int32}, yl A s → (tV A (yT A s)).toInt ≤ n → (yT A s = u ∨ ya_walk (tP A) (fun x => decide (x = u)) 4 (tP A (yT A s)) ≠ none) → u ≠ -1 → yl A ((ya_walk (yP A) (fun x => decide (yT A x = u)) n s).elim (-1) (fun x => x)) ∧ yT A ((ya_walk (yP A) (fun x => decide (yT A x = u)) n s).elim (-1) (fun x => x)) = u
  | 0, s, u, hs, hn, _, _ => by
    have := (I.1.2.1 _ (I.2.1.1 s hs).1).2.2.2.2.2.1.1
    omega
  | n + 1, s, u, hs, hn, hu, hu1 => by
    unfold ya_walk
    rw [if_neg (yl_ne hs)]
    by_cases e : yT A s = u
    · rw [if_pos (decide_eq_true e)]
      exact ⟨hs, e⟩
    · rw [if_neg (by simpa using e)]
      have hu := hu.resolve_left e
      by_cases hp : yP A s = -1
      · exfalso
        rcases (I.2.1.1 s hs).2 with ⟨h1, _⟩ | ⟨h1, _⟩
        · rw [h1] at hu
          exact hu rfl
        · rw [hp] at h1
          exact yl_ne h1 rfl
      · obtain ⟨h1, h2, h3, h4⟩ := yl_par I.1 I.2.1 hs hp
        refine yg_upw I n h1 (by omega) ?_ hu1
        rcases (I.2.1.1 s hs).2 with ⟨_, g⟩ | ⟨g1, g2, g3⟩
        · exact absurd g hp
        · rw [g2]
          by_cases e2 : tP A (yT A s) = u
          · exact Or.inl e2
          · right
            intro hw
            apply hu
            have hd : ya_dp (tP A) 4 (tP A (yT A s)) := by
              rcases yk_GT I.1 _ (I.2.1.1 s hs).1 with q | q
              · exact absurd q g3
              · exact yk_dpT4 I.1 q
            have hb := yk_below (o := u) g3 hd
            rw [hw, decide_eq_false e2] at hb
            cases hz : ya_walk (tP A) (fun x => decide (x = u)) 4 (tP A (yT A s)) with
            | none => rfl
            | some z => rw [hz] at hb; cases hb
theorem yg_up (I : yn_I t A) {s u : Int32} (hs : yl A s) (h : yT A s = u ∨ ya_X2_isBelow A (yT A s) u = true) (hu : u ≠ -1) : yl A (ya_X3_upward A s u) ∧ yT A (ya_X3_upward A s u) = u := by
  refine yg_upw I 4 hs (I.1.2.1 _ (I.2.1.1 s hs).1).2.2.2.2.2.1.2 ?_ hu
  rcases h with h | h
  · exact Or.inl h
  · right
    unfold ya_X2_isBelow at h
    rw [yk_elimB] at h
    intro e
    have e' : ya_walk (fun x => ya_tg A 3 (-1) x) (fun x => decide (x = u)) 4 (ya_tg A 3 (-1) (yT A s)) = none := e
    rw [e'] at h
    cases h
/-- below what is below -/
theorem yg_belowT (hS : yn_S A) : ∀ (n : Nat) {a b c : Int32}, ya_isT A a = true → (tV A a).toInt ≤ n → ya_X2_isBelow A a b = true → ya_X2_isBelow A b c = true → ya_X2_isBelow A a c = true
  | 0, a, b, c, ha, hn, _, _ => by
    have := (hS.2.1 _ ha).2.2.2.2.2.1.1
    omega
  | n + 1, a, b, c, ha, hn, h1, h2 => by
    unfold ya_X2_isBelow at h1 h2 ⊢
    rw [yk_elimB] at h1 h2 ⊢
    rcases (hS.2.1 _ ha).2.2.2.2.2.2.1 with ⟨g, _⟩ | ⟨g1, g2, g3, g4⟩
    · rw [show ya_tg A 3 (-1) a = -1 from g] at h1
      cases h1
    · have hd := yk_dpT4 hS g1
      have e1 := yk_below (o := b) (ya_isT_ne g1) hd
      have e2 := yk_below (o := c) (ya_isT_ne g1) hd
      rw [show ya_walk (fun x => ya_tg A 3 (-1) x) (fun x => decide (x = b)) 4 (ya_tg A 3 (-1) a) = ya_walk (tP A) (fun x => decide (x = b)) 4 (tP A a) from rfl, e1] at h1
      rw [show ya_walk (fun x => ya_tg A 3 (-1) x) (fun x => decide (x = c)) 4 (ya_tg A 3 (-1) a) = ya_walk (tP A) (fun x => decide (x = c)) 4 (tP A a) from rfl, e2]
      rw [Bool.or_eq_true] at h1 ⊢
      rcases h1 with h1 | h1
      · right
        rw [show tP A a = b from of_decide_eq_true h1]
        exact h2
      · right
        have := yg_belowT hS n (a := tP A a) (b := b) (c := c) g1 (by omega) (by unfold ya_X2_isBelow; rw [yk_elimB]; exact h1) (by unfold ya_X2_isBelow; rw [yk_elimB]; exact h2)
        unfold ya_X2_isBelow at this
        rw [yk_elimB] at this
        exact this
/-- an ordered list: each is below each ahead of it -/
theorem yg_listed (I : yn_I t A) {v : Nat} (hL : ya_X5_isListOrdered A v = true) : (∀ j : Nat, (j : Int) < (A 19 0).toInt → ya_X4_sees A v (ya_ag A 20 (-1) (nI j)) = true) ∧ ∀ (j : Nat) (d : Nat), ((j + (d + 1) : Nat) : Int) < (A 19 0).toInt → ya_X2_isBelow A (ya_ag A 20 (-1) (nI (j + (d + 1)))) (ya_ag A 20 (-1) (nI j)) = true := by
  have h4 := yg_n19 I
  have h0 : ∀ j : Nat, (j : Int) < (A 19 0).toInt → ya_X4_sees A v (ya_ag A 20 (-1) (nI j)) = true ∧ (0 < j → ya_X2_isBelow A (ya_ag A 20 (-1) (nI j)) (ya_ag A 20 (-1) (nI (j - 1))) = true) := fun j hj => by
    unfold ya_X5_isListOrdered at hL
    rw [yg_iteN, Bool.not_eq_true'] at hL
    have hn : ¬ (∃ i, 0 ≤ i ∧ i < 0 + (A 19 0).toNatClampNeg ∧ _) := fun q => absurd (ya_ff_isSome.mpr q) (by rw [hL]; decide)
    have hj2 : ¬ _ := fun q => hn ⟨j, by omega, by omega, q⟩
    simp only [Bool.or_eq_true, Bool.and_eq_true, Bool.not_eq_true', not_or, Bool.not_eq_false, not_and] at hj2
    refine ⟨hj2.1, fun q => ?_⟩
    have h5 := hj2.2 (by rw [decide_eq_true_eq, Int32.lt_iff_toInt_lt, nI_toInt (by omega), yl_c0]; omega)
    rwa [show nI j - 1 = nI (j - 1) from (yg_pred I (fun e => by have := congrArg Int32.toInt e; rw [nI_toInt (by omega), yl_c0] at this; omega) (by omega)).1] at h5
  refine ⟨fun j hj => (h0 j hj).1, fun j d => ?_⟩
  induction d with
  | zero => exact fun hd => (h0 (j + 1) hd).2 (by omega)
  | succ d ih =>
    intro hd
    have h1 := (h0 (j + (d + 2)) hd).2 (by omega)
    rw [show j + (d + 2) - 1 = j + (d + 1) by omega] at h1
    have hT := yg_arg I hd
    exact yg_belowT I.1 4 hT (I.1.2.1 _ hT).2.2.2.2.2.1.2 h1 (ih (by omega))

theorem yg_argx (I : yn_I t A) {x : Int32} (h : ya_isA A x = true) : ya_isT A (ya_ag A 20 (-1) x) = true := by
  have h1 := yl_isA.mp h
  rw [yi_nat (yi_pos.mpr h1.1)]
  exact yg_arg I (by rw [yi_clampInt]; omega)
/-- below: on a lower level, of the same database -/
theorem yg_belowV (I : yn_I t A) : ∀ (n : Nat) {s p : Int32}, yl A s → (tV A (yT A s)).toInt ≤ n → ya_X3_isBelow A s p = true → yl A p ∧ sD A p = sD A s ∧ (tV A (yT A p)).toInt < (tV A (yT A s)).toInt ∧ yP A s ≠ -1 ∧ (yP A s = p ∨ ya_X3_isBelow A (yP A s) p = true)
  | 0, s, p, hs, hn, _ => by
    have := (I.1.2.1 _ (I.2.1.1 s hs).1).2.2.2.2.2.1.1
    omega
  | n + 1, s, p, hs, hn, h => by
    have h0 := h
    unfold ya_X3_isBelow at h
    rw [yk_elimB] at h
    by_cases hp : yP A s = -1
    · rw [show ya_sg A 12 s = -1 from hp] at h
      cases h
    · obtain ⟨h1, h2, h3, h4⟩ := yl_par I.1 I.2.1 hs hp
      have e := yk_below (o := p) hp (yk_dp4 I.1 I.2.1 h1)
      rw [show ya_walk (fun x => ya_sg A 12 x) (fun x => decide (x = p)) 4 (ya_sg A 12 s) = ya_walk (yP A) (fun x => decide (x = p)) 4 (yP A s) from rfl, e, Bool.or_eq_true] at h
      rcases h with h | h
      · have q : yP A s = p := of_decide_eq_true h
        rw [q] at h1 h2 h3 h4
        exact ⟨h1, h2, by omega, hp, Or.inl q⟩
      · have hb : ya_X3_isBelow A (yP A s) p = true := by
          unfold ya_X3_isBelow
          rw [yk_elimB]
          exact h
        obtain ⟨g1, g2, g3, _⟩ := yg_belowV I n h1 (by omega) hb
        exact ⟨g1, g2.trans h2, by omega, hp, Or.inr hb⟩
theorem yg_below (I : yn_I t A) {s p : Int32} (hs : yl A s) (h : ya_X3_isBelow A s p = true) : yl A p ∧ sD A p = sD A s ∧ (tV A (yT A p)).toInt < (tV A (yT A s)).toInt ∧ yP A s ≠ -1 ∧ (yP A s = p ∨ ya_X3_isBelow A (yP A s) p = true) :=
  yg_belowV I 4 hs (I.1.2.1 _ (I.2.1.1 s hs).1).2.2.2.2.2.1.2 h
theorem yg_noself (I : yn_I t A) {s : Int32} (hs : yl A s) : ya_X3_isBelow A s s = false := by
  cases h : ya_X3_isBelow A s s with
  | false => rfl
  | true => have := (yg_below I hs h).2.2.1; omega
theorem yg_belowm {p : Int32} (h : ya_sg A 12 (-1) = -1) : ya_X3_isBelow A (-1) p = false := by
  unfold ya_X3_isBelow
  rw [h]
  rfl
theorem yg_sgm {k : Nat} : ya_sg A k (-1) = -1 := rfl
theorem yg_here (I : yn_I t A) {v : Nat} (hv : v < 4) : (A (sy_vw v) 3 = 0 → ya_here A v = -1 ∧ ya_mode A v ≠ 0) ∧ (A (sy_vw v) 3 ≠ 0 → ya_here A v = A (sy_vw v) 2 ∧ ya_mode A v = 0 ∧ yl A (A (sy_vw v) 2)) := by
  obtain ⟨_, _, h2, h3, _⟩ := I.2.2.2.2.2.1 v hv
  constructor
  · intro e
    refine ⟨by unfold ya_here; rw [e]; rfl, ?_⟩
    unfold ya_mode
    rw [if_neg (by simpa using e)]
    by_cases h : A (sy_vw v) 2 ≠ -1
    · rw [if_pos h]; decide
    · rw [if_neg h]
      by_cases h' : A (sy_vw v) 4 ≠ 0
      · rw [if_pos h']; decide
      · rw [if_neg h']; decide
  · intro e
    refine ⟨?_, ?_, ?_⟩
    · unfold ya_here
      rw [decide_eq_false e]
      rfl
    · unfold ya_mode
      rw [if_pos e]
    · rcases h3 with h3 | h3
      · exact absurd h3 e
      · exact (h2.resolve_left h3.2).1
theorem yg_mode0 (I : yn_I t A) {v : Nat} (hv : v < 4) (h : decide (ya_mode A v = 0) = true) : yl A (A (sy_vw v) 2) := by
  by_cases e : A (sy_vw v) 3 = 0
  · exact absurd (of_decide_eq_true h) ((yg_here I hv).1 e).2
  · exact ((yg_here I hv).2 e).2.2
theorem yg_mode1 (I : yn_I t A) {v : Nat} (hv : v < 4) (h : decide (ya_mode A v = 1) = true) : yl A (A (sy_vw v) 2) := by
  obtain ⟨_, _, h2, _⟩ := I.2.2.2.2.2.1 v hv
  refine (h2.resolve_left (fun e => ?_)).1
  have h := of_decide_eq_true h
  unfold ya_mode at h
  by_cases h3 : A (sy_vw v) 3 ≠ 0
  · rw [if_pos h3] at h; exact absurd h (by decide)
  · rw [if_neg h3, if_neg (fun q => q e)] at h
    by_cases h' : A (sy_vw v) 4 ≠ 0
    · rw [if_pos h'] at h; exact absurd h (by decide)
    · rw [if_neg h'] at h; exact absurd h (by decide)
theorem yg_rt (I : yn_I t A) {v a2 i : Nat} {a1 : Int32} (hL : ya_X5_isListOrdered A v = true) (hs : yl A a1) (ha : (a2 : Int) ≤ (A 19 0).toInt) (hb : (ya_X4_sees A v (ya_sg A 11 a1) && (decide (nI a2 = 0) || decide (ya_sg A 11 a1 = ya_ag A 20 (-1) (nI a2 - 1)))) = true) (hi : i < a2) : yl A (ya_X3_upward A a1 (ya_ag A 20 (-1) (nI i))) ∧ yT A (ya_X3_upward A a1 (ya_ag A 20 (-1) (nI i))) = ya_ag A 20 (-1) (nI i) := by
  have h4 := yg_n19 I
  have h0 : ¬ nI a2 = 0 := fun e => by
    have := congrArg Int32.toInt e
    rw [nI_toInt (by omega), yl_c0] at this
    omega
  rw [decide_eq_false h0, Bool.false_or, Bool.and_eq_true] at hb
  have hT := of_decide_eq_true hb.2
  rw [(yg_pred I h0 ha).1] at hT
  refine yg_up I hs ?_ (ya_isT_ne (yg_arg I (by omega)))
  show ya_sg A 11 a1 = _ ∨ _
  by_cases e : i = a2 - 1
  · left; rw [hT, e]
  · right
    show ya_X2_isBelow A (ya_sg A 11 a1) _ = true
    rw [hT]
    have := (yg_listed I hL).2 i (a2 - 1 - i - 1) (by omega)
    rwa [show i + (a2 - 1 - i - 1 + 1) = a2 - 1 by omega] at this

/-- the four ways in which a view can be -/
theorem yg_modes (I : yn_I t A) {v : Nat} (hv : v < 4) :
    (A (sy_vw v) 3 = 1 ∧ A (sy_vw v) 4 = 0 ∧ yl A (A (sy_vw v) 2) ∧ sD A (A (sy_vw v) 2) = A (sy_vw v) 0 ∧ ya_mode A v = 0 ∧ ya_here A v = A (sy_vw v) 2) ∨
    (A (sy_vw v) 3 = 0 ∧ A (sy_vw v) 4 = 0 ∧ yl A (A (sy_vw v) 2) ∧ sD A (A (sy_vw v) 2) = A (sy_vw v) 0 ∧ ya_mode A v = 1 ∧ ya_here A v = -1) ∨
    (A (sy_vw v) 3 = 0 ∧ A (sy_vw v) 4 = 1 ∧ A (sy_vw v) 2 = -1 ∧ ya_mode A v = 3 ∧ ya_here A v = -1) ∨
    (A (sy_vw v) 3 = 0 ∧ A (sy_vw v) 4 = 0 ∧ A (sy_vw v) 2 = -1 ∧ ya_mode A v = 2 ∧ ya_here A v = -1) := by
  obtain ⟨_, _, h2, h3, h4, _⟩ := I.2.2.2.2.2.1 v hv
  have hh := yg_here I hv
  rcases h3 with h3 | ⟨h3, h2'⟩
  · have hm := hh.1 h3
    rcases h2 with h2 | ⟨h2, h2d⟩
    · rcases h4 with h4 | ⟨h4, _⟩
      · right; right; right
        refine ⟨h3, h4, h2, ?_, hm.1⟩
        unfold ya_mode
        rw [h3, h4, h2]
        rfl
      · right; right; left
        refine ⟨h3, h4, h2, ?_, hm.1⟩
        unfold ya_mode
        rw [h3, h4, h2]
        rfl
    · right; left
      refine ⟨h3, h4.resolve_right (fun q => yl_ne h2 q.2), h2, h2d, ?_, hm.1⟩
      unfold ya_mode
      rw [h3, if_neg (by decide), if_pos (yl_ne h2)]
  · left
    have hm := hh.2 (by rw [h3]; decide)
    exact ⟨h3, h4.resolve_right (fun q => h2' q.2), hm.2.2, (h2.resolve_left h2').2, hm.2.1, hm.1⟩
theorem yg_pl (I : yn_I t A) {s : Int32} (hs : yl A s) : 0 ≤ (yL A s).toInt ∧ (yL A s).toInt < 60 ∧ (yL A s).toInt < (ya_cnt A (sD A s)).toInt := by
  obtain ⟨h1, h2, _⟩ := I.2.2.1.2.2.1 s hs
  have hd := yl_sD I.1 I.2.1 hs
  have h60 : (ya_cnt A (sD A s)).toInt ≤ 60 := by
    rw [ya_cnt_in hd]
    exact (I.2.2.1.1 _ (by rw [yi_clampInt]; omega)).2
  omega
theorem yg_plne (I : yn_I t A) {s : Int32} (hs : yl A s) : yL A s ≠ -1 := by
  intro e
  have := (yg_pl I hs).1
  rw [e, yl_cm] at this
  omega
/-- how many are ahead of a view -/
theorem yg_ahead (I : yn_I t A) {v : Nat} (hv : v < 4) : ya_X5_countAhead A v = (if ya_mode A v = 0 ∨ ya_mode A v = 1 then yL A (A (sy_vw v) 2) else if ya_mode A v = 2 then 0 else ya_cnt A (A (sy_vw v) 0)) := by
  unfold ya_X5_countAhead
  rcases yg_modes I hv with ⟨h3, h4, h2, _, hm, _⟩ | ⟨h3, h4, h2, _, hm, _⟩ | ⟨h3, h4, h2, hm, _⟩ | ⟨h3, h4, h2, hm, _⟩
  · rw [h4, hm, if_neg (by decide), decide_eq_false (yg_plne I h2), if_neg (by decide), if_pos (Or.inl rfl)]
  · rw [h4, hm, if_neg (by decide), decide_eq_false (yg_plne I h2), if_neg (by decide), if_pos (Or.inr rfl)]
  · rw [h4, hm, if_pos (by decide), if_neg (by decide), if_neg (by decide)]
  · rw [h4, hm, h2, if_neg (by decide), if_pos (show decide (ya_sg A 17 (-1) = -1) = true from rfl), if_neg (by decide), if_pos rfl]
theorem yg_from (I : yn_I t A) {v : Nat} (hv : v < 4) : ya_X5_placeBehind A v = (if ya_mode A v = 0 then yL A (A (sy_vw v) 2) + 1 else if ya_mode A v = 1 then yL A (A (sy_vw v) 2) else if ya_mode A v = 2 then 0 else ya_cnt A (A (sy_vw v) 0)) := by
  unfold ya_X5_placeBehind
  rw [yg_ahead I hv]
  rcases yg_modes I hv with ⟨h3, h4, h2, _, hm, hh⟩ | ⟨h3, h4, h2, _, hm, hh⟩ | ⟨h3, h4, h2, hm, hh⟩ | ⟨h3, h4, h2, hm, hh⟩
  · rw [hm, hh, decide_eq_false (yl_ne h2), if_neg (by decide), if_pos (Or.inl rfl), if_pos rfl]
  · rw [hm, hh, if_pos (by decide), if_pos (Or.inr rfl), if_neg (by decide), if_pos rfl]
  · rw [hm, hh, if_pos (by decide), if_neg (by decide), if_neg (by decide), if_neg (by decide), if_neg (by decide)]
  · rw [hm, hh, if_pos (by decide), if_neg (by decide), if_pos rfl, if_neg (by decide), if_neg (by decide)]
theorem ym_hasTwin (M : yr_M A σ) (I : yn_I t A) (a1 : Int32) (a2 : Nat) (a3 : Int32) (hs : yl A a1) (ha : (a2 : Int) < (A 19 0).toInt) : sf_X6_hasTwin [.ref 44, .int a1, .int (nI a2), .int a3] σ = some (.inl (some (.int (ya_b (ya_X5_isTwinFulfilling A a1 (nI a2) a3)))), σ) := by
  have e0 : (ya_b ((ya_ff (fun i => (((((!decide ((ya_sg A 11 (nI i)) = (-1))) && (!decide ((nI i) = a1))) && (decide (ya_sg A 11 (nI i) = ya_sg A 11 a1) && decide (ya_sg A 12 (nI i) = ya_sg A 12 a1))) && (ya_X0_isFulfilled A (nI a2) (nI i))) && (decide ((ya_b (decide ((ya_sg A 17 (nI i)) < (ya_sg A 17 a1)))) = a3)))) (60) 0).isSome)) = (ya_b (ya_X5_isTwinFulfilling A a1 (nI a2) a3)) := by
    unfold ya_X5_isTwinFulfilling
    rw [yg_ite]
    congr 2
    refine ya_ff_congr (fun i _ hi => ?_)
    have h0 : (decide (0 ≤ nI i) && decide (nI i < 60)) = true := yl_isS.mpr (yg_60 (by omega))
    unfold ya_tw
    rw [h0, Bool.true_and]
    by_cases h1 : ya_sg A 11 (nI i) = ya_sg A 11 a1
    · have h2 : ya_sg A 11 (nI i) ≠ -1 := by rw [h1]; exact hs
      rw [decide_eq_true h1, decide_eq_false h2]
      cases decide (nI i = a1) <;> cases decide (ya_sg A 12 (nI i) = ya_sg A 12 a1) <;> cases ya_X0_isFulfilled A (nI a2) (nI i) <;> cases decide (ya_b (decide (ya_sg A 17 (nI i) < ya_sg A 17 a1)) = a3) <;> rfl
    · rw [decide_eq_false h1]
      cases decide (nI i = a1) <;> cases decide (ya_sg A 12 (nI i) = ya_sg A 12 a1) <;> cases ya_X0_isFulfilled A (nI a2) (nI i) <;> cases decide (ya_b (decide (ya_sg A 17 (nI i) < ya_sg A 17 a1)) = a3) <;> cases decide (ya_sg A 11 (nI i) = -1) <;> rfl
  rw [← e0]
  refine ee_meth ?_ rfl
  unfold sm_X6_hasTwin
  refine (es_Q (es_SI (x := ya_b false) ee_K (es_Q (es_B (es_Q (es_SI ee_K0 (es_forOr0 (E := (fun (i : Nat) (b : Bool) => ([.ref 44, .int a1, .int (nI a2), .int a3, .int (ya_b b), .int (nI i)] : List Value))) (P := fun i => (((((!decide ((ya_sg A 11 (nI i)) = (-1))) && (!decide ((nI i) = a1))) && (decide (ya_sg A 11 (nI i) = ya_sg A 11 a1) && decide (ya_sg A 12 (nI i) = ya_sg A 12 a1))) && (ya_X0_isFulfilled A (nI a2) (nI i))) && (decide ((ya_b (decide ((ya_sg A 17 (nI i)) < (ya_sg A 17 a1)))) = a3)))) (N := 60) (b := false) (by omega) (fun i b hi => (es_c60 rfl (by omega)).trans (by rw [decide_eq_true hi])) (fun b => (es_c60 rfl (by omega)).trans (by rw [decide_eq_false (by omega)])) (fun i b hi k' => (es_Q (es_B (es_Q (es_SI (ee_iC (ee_cA (ee_cA (ee_cB (em_53 M (ee_rF (ee_R rfl) rfl) (ee_L rfl) ?_) ee_K) (fun h2 => (ee_cB (ee_L rfl) (ee_L rfl)))) (fun h1 => (ee_cb (ee_M (ee_aR (ee_R rfl) (ee_aI (ee_L rfl) (ee_aI (ee_L rfl) ee_aN))) (ee_cv (ym_areTwins M (nI i) a1 ?_ ?_) rfl)))))) (es_SI (ee_iC (ee_cO (ee_cb (ee_L rfl)) (fun h3 => (ee_cA (ee_cA (ee_cb (ee_L rfl)) (fun h5 => (ee_cb (ee_M (ee_aR (ee_R rfl) (ee_aI (ee_L rfl) (ee_aI (ee_L rfl) ee_aN))) (ee_cv (ym_fulfils M I (nI i) a2 ?_ ?_) rfl))))) (fun h4 => (ee_cB (ee_iC (ee_cB (ee_M (ee_aR (ee_R rfl) (ee_aI (ee_L rfl) ee_aN)) (ee_cv (ym_placeOf M I (nI i) ?_) rfl)) (ee_M (ee_aR (ee_R rfl) (ee_aI (ee_L rfl) ee_aN)) (ee_cv (ym_placeOf M I a1 ?_) rfl)))) (ee_L rfl))))))) (es_In1 rfl rfl)))))).trans (congrArg (fun z => k' ((fun (i : Nat) (b : Bool) => ([.ref 44, .int a1, .int (nI a2), .int a3, .int (ya_b b), .int (nI i)] : List Value)) (i + 1) z) σ) (show (b || (((((!decide ((ya_sg A 11 (nI i)) = (-1))) && (!decide ((nI i) = a1))) && (decide (ya_sg A 11 (nI i) = ya_sg A 11 a1) && decide (ya_sg A 12 (nI i) = ya_sg A 12 a1))) && (ya_X0_isFulfilled A (nI a2) (nI i))) && (decide ((ya_b (decide ((ya_sg A 17 (nI i)) < (ya_sg A 17 a1)))) = a3)))) = (b || (((((!decide ((ya_sg A 11 (nI i)) = (-1))) && (!decide ((nI i) = a1))) && (decide (ya_sg A 11 (nI i) = ya_sg A 11 a1) && decide (ya_sg A 12 (nI i) = ya_sg A 12 a1))) && (ya_X0_isFulfilled A (nI a2) (nI i))) && (decide ((ya_b (decide ((ya_sg A 17 (nI i)) < (ya_sg A 17 a1)))) = a3)))) from by cases b <;> rfl))) (es_eZb (ee_L rfl)))))))))
  all_goals first | with_reducible assumption | exact yl_in (by with_reducible assumption) | exact (I.2.1.1 _ (by with_reducible assumption)).1 | exact yg_60 (by omega) | exact yg_arg I (by omega) | exact yg_tw1 (by with_reducible assumption) | exact yg_tw2 (by with_reducible assumption) | exact yg_tw3 (by with_reducible assumption) | exact yl_in (yg_tw1 (by with_reducible assumption)) | exact yl_in (yg_tw2 (by with_reducible assumption)) | omega
theorem yb_codes : ∀ f c2 c4 c8 t1 t0 x y : Bool, (((((!false) && f) && ((!c2) || (!t1))) && ((!c4) || (!t0))) && ((!c8) || (x || y))) = (f && (if (c2 && t1) then false else (if (c4 && t0) then false else (((!c8) || x) || y)))) := by decide
theorem ym_isRightFor (M : yr_M A σ) (I : yn_I t A) {v : Nat} (hv : v < 4) (a1 : Int32) (a2 : Nat) (hs : yl A a1) (ha : (a2 : Int) < (A 19 0).toInt) : sf_X6_isRightFor [.ref 44, .int (nI v), .int a1, .int (nI a2)] σ = some (.inl (some (.int (ya_b (ya_X0_isFulfilled A (nI a2) a1 && ya_X5_areCodesRight A v a1 (nI a2))))), σ) := by
  have e0 : (ya_b (((((!decide (a1 = (-1))) && (ya_X0_isFulfilled A (nI a2) a1)) && ((!(ya_code A (nI a2) 2)) || (!(ya_X5_isTwinFulfilling A a1 (nI a2) 1)))) && ((!(ya_code A (nI a2) 4)) || (!(ya_X5_isTwinFulfilling A a1 (nI a2) 0)))) && ((!(ya_code A (nI a2) 8)) || ((decide ((ya_mode A v) = 0)) && (ya_under A (A (sy_vw v) 2) a1))))) = (ya_b (ya_X0_isFulfilled A (nI a2) a1 && ya_X5_areCodesRight A v a1 (nI a2))) := by
    unfold ya_X5_areCodesRight
    have e1 : ((decide (ya_mode A v = 0)) && (ya_under A (A (sy_vw v) 2) a1)) = ((decide (ya_here A v = a1)) || (ya_X3_isBelow A (ya_here A v) a1)) := by
      by_cases h3 : A (sy_vw v) 3 = 0
      · obtain ⟨h4, h5⟩ := (yg_here I hv).1 h3
        rw [h4, decide_eq_false h5, yg_belowm yg_sgm, show decide ((-1 : Int32) = a1) = false from decide_eq_false (fun e => yl_ne hs e.symm)]
        rfl
      · obtain ⟨h4, h5, h6⟩ := (yg_here I hv).2 h3
        rw [h4, h5]
        rfl
    rw [e1, decide_eq_false (yl_ne hs)]
    exact congrArg ya_b (yb_codes _ _ _ _ _ _ _ _)
  rw [← e0]
  refine ee_meth ?_ rfl
  unfold sm_X6_isRightFor
  refine (es_Q (es_SI (ee_iC (ee_cA (ee_cB (ee_L rfl) ee_K) (fun h1 => (ee_cb (ee_M (ee_aR (ee_R rfl) (ee_aI (ee_L rfl) (ee_aI (ee_L rfl) ee_aN))) (ee_cv (ym_fulfils M I a1 a2 ?_ ?_) rfl)))))) (es_Q (es_SI (ee_iC (ee_cA (ee_cb (ee_L rfl)) (fun h2 => (ee_cO (ee_cN (ee_cb (ee_M (ee_aR (ee_R rfl) (ee_aI (ee_L rfl) (ee_aI ee_K ee_aN))) (ee_cv (ym_hasCode M I (j := a2) ?_ 2) rfl)))) (fun h3 => (ee_cN (ee_cb (ee_M (ee_aR (ee_R rfl) (ee_aI (ee_L rfl) (ee_aI (ee_L rfl) (ee_aI ee_K ee_aN)))) (ee_cv (ym_hasTwin M I a1 a2 1 ?_ ?_) rfl))))))))) (es_Q (es_SI (ee_iC (ee_cA (ee_cb (ee_L rfl)) (fun h4 => (ee_cO (ee_cN (ee_cb (ee_M (ee_aR (ee_R rfl) (ee_aI (ee_L rfl) (ee_aI ee_K ee_aN))) (ee_cv (ym_hasCode M I (j := a2) ?_ 4) rfl)))) (fun h5 => (ee_cN (ee_cb (ee_M (ee_aR (ee_R rfl) (ee_aI (ee_L rfl) (ee_aI (ee_L rfl) (ee_aI ee_K ee_aN)))) (ee_cv (ym_hasTwin M I a1 a2 0 ?_ ?_) rfl))))))))) (es_eZb (ee_iC (ee_cA (ee_cb (ee_L rfl)) (fun h6 => (ee_cO (ee_cN (ee_cb (ee_M (ee_aR (ee_R rfl) (ee_aI (ee_L rfl) (ee_aI ee_K ee_aN))) (ee_cv (ym_hasCode M I (j := a2) ?_ 8) rfl)))) (fun h7 => (ee_cA (ee_cB (em_61 M hv (ee_rF (ee_R rfl) rfl) (ee_L rfl)) ee_K) (fun h8 => (ee_cb (ee_M (ee_aR (ee_R rfl) (ee_aI (em_62 M hv (ee_rF (ee_R rfl) rfl) (ee_L rfl)) (ee_aI (ee_L rfl) ee_aN))) (ee_cv (ym_isUnder M I (A (sy_vw v) 2) a1 ?_ ?_) rfl)))))))))))))))))
  all_goals first | with_reducible assumption | exact yl_in (by with_reducible assumption) | exact (I.2.1.1 _ (by with_reducible assumption)).1 | exact yg_60 (by omega) | exact yg_arg I (by omega) | exact yg_tw1 (by with_reducible assumption) | exact yg_tw2 (by with_reducible assumption) | exact yg_tw3 (by with_reducible assumption) | exact yl_in (yg_tw1 (by with_reducible assumption)) | exact yl_in (yg_tw2 (by with_reducible assumption)) | omega | exact yg_mode0 I hv (by with_reducible assumption) | exact yl_ne (by with_reducible assumption)
theorem ym_isRight (M : yr_M A σ) (I : yn_I t A) {v : Nat} (hv : v < 4) (a1 : Int32) (a2 : Nat) (hs : yl A a1) (ha : (a2 : Int) ≤ (A 19 0).toInt) (hL : ya_X5_isListOrdered A v = true) : sf_X6_isRight [.ref 44, .int (nI v), .int a1, .int (nI a2)] σ = some (.inl (some (.int (ya_b (ya_X5_isRight A v a1 a2)))), σ) := by
  have e0 : (ya_b (((ya_X4_sees A v (ya_sg A 11 a1)) && ((decide ((nI a2) = 0)) || (decide ((ya_sg A 11 a1) = (ya_ag A 20 (-1) ((nI a2) - 1)))))) && (ya_ff (fun i => !(ya_X0_isFulfilled A (nI i) (ya_X3_upward A a1 (ya_ag A 20 (-1) (nI i))) && ya_X5_areCodesRight A v (ya_X3_upward A a1 (ya_ag A 20 (-1) (nI i))) (nI i))) (a2) 0).isNone)) = (ya_b (ya_X5_isRight A v a1 a2)) := by
    have h19 := yg_n19 I
    unfold ya_X5_isRight
    rw [yg_iteN, nI_clamp (by omega), yg_isNone]
    rw [show (fun i => !(ya_X0_isFulfilled A (nI i) (ya_X3_upward A a1 (ya_ag A 20 (-1) (nI i))) && ya_X5_areCodesRight A v (ya_X3_upward A a1 (ya_ag A 20 (-1) (nI i))) (nI i))) = (fun i => (!ya_X0_isFulfilled A (nI i) (ya_X3_upward A a1 (ya_ag A 20 (-1) (nI i)))) || !ya_X5_areCodesRight A v (ya_X3_upward A a1 (ya_ag A 20 (-1) (nI i))) (nI i)) from funext fun i => by rw [Bool.not_and]]
    rw [show decide (0 < nI a2) = !decide (nI a2 = 0) from by
      by_cases e : nI a2 = 0
      · rw [e]; rfl
      · rw [decide_eq_false e, decide_eq_true_eq.mpr]
        · rfl
        · rw [Int32.lt_iff_toInt_lt, nI_toInt (by omega), yl_c0]
          have : a2 ≠ 0 := fun q => e (by rw [q, nI_0])
          omega]
    cases ya_X4_sees A v (ya_sg A 11 a1) <;> cases decide (nI a2 = 0) <;> cases decide (ya_sg A 11 a1 = ya_ag A 20 (-1) (nI a2 - 1)) <;> rfl
  rw [← e0]
  refine ee_meth ?_ rfl
  unfold sm_X6_isRight
  refine (es_Q (es_SI (ee_iC (ee_cA (ee_cb (ee_M (ee_aR (ee_R rfl) (ee_aI (ee_L rfl) (ee_aI (em_53 M (ee_rF (ee_R rfl) rfl) (ee_L rfl) ?_) ee_aN))) (ee_cv (ym_sees M I hv (ya_sg A 11 a1) ?_) rfl))) (fun h1 => (ee_cO (ee_cB (ee_L rfl) ee_K) (fun h2 => (ee_cB (em_53 M (ee_rF (ee_R rfl) rfl) (ee_L rfl) ?_) (em_67x M I (ee_rF (ee_R rfl) rfl) (ee_B (ee_L rfl) ee_K) ?_))))))) (es_Q (es_B (es_Q (es_SI ee_K0 (es_forStop (E := (fun (i : Nat) (b : Bool) => ([.ref 44, .int (nI v), .int a1, .int (nI a2), .int (ya_b b), .int (nI i)] : List Value))) (P := fun i => (ya_X0_isFulfilled A (nI i) (ya_X3_upward A a1 (ya_ag A 20 (-1) (nI i))) && ya_X5_areCodesRight A v (ya_X3_upward A a1 (ya_ag A 20 (-1) (nI i))) (nI i))) (N := a2) (b := ((ya_X4_sees A v (ya_sg A 11 a1)) && ((decide ((nI a2) = 0)) || (decide ((ya_sg A 11 a1) = (ya_ag A 20 (-1) ((nI a2) - 1))))))) (by have := yg_n19 I; omega) (fun i b hi => (ee_cA (es_cB rfl (ee_L rfl) (by have := yg_n19 I; omega)) (fun _ => ee_cb (ee_L rfl))).trans (by rw [nI_clamp (by have := yg_n19 I; omega)])) (fun hb i hi k' => es_Q (es_SI (ee_M (ee_aR (ee_R rfl) (ee_aI (ee_L rfl) (ee_aI (ee_M (ee_aR (ee_R rfl) (ee_aI (ee_L rfl) (ee_aI (em_67 M I (ee_rF (ee_R rfl) rfl) (ee_L rfl) ?_) ee_aN))) (ee_cv (ym_among M I a1 (ya_ag A 20 (-1) (nI i)) ?_) rfl)) (ee_aI (ee_L rfl) ee_aN)))) (ee_cv (ym_isRightFor M I hv (ya_X3_upward A a1 (ya_ag A 20 (-1) (nI i))) i ?_ ?_) rfl)) (es_In1 rfl rfl))) (fun i => (es_eZb (ee_L rfl))))))))))
  all_goals first | with_reducible assumption | exact yl_in (by with_reducible assumption) | exact (I.2.1.1 _ (by with_reducible assumption)).1 | exact yg_60 (by omega) | exact yg_arg I (by omega) | exact yg_tw1 (by with_reducible assumption) | exact yg_tw2 (by with_reducible assumption) | exact yg_tw3 (by with_reducible assumption) | exact yl_in (yg_tw1 (by with_reducible assumption)) | exact yl_in (yg_tw2 (by with_reducible assumption)) | omega | exact Or.inr (by with_reducible assumption) | exact (yg_pred I (of_decide_eq_false (by with_reducible assumption)) (by omega)).2 | exact (yg_rt I hL hs ha (by with_reducible assumption) (by with_reducible assumption)).1
end YQ
