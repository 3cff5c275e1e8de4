section YIe
variable {A K τ : sy_Mem} {t f v : Nat} {p : Int32}
theorem yi_fin (I : yn_I t K) (M : yr_M K τ) (hv : v < 4) (O : yi_ok K v f p) (ht : t + 60 < 10000) {B : sy_Mem} {b : Int32} (e : ya_inw K f p (ya_here K v) ((K 19 0).toNatClampNeg - f) = (B, b)) :
    yn_I (t + 4) (sy_up (ya_stand B v b 1 0) (sy_vw v) 5 b) ∧ yr_M (sy_up (ya_stand B v b 1 0) (sy_vw v) 5 b) (sy_up (sy_up (sy_up (ym_inw τ K f p (ya_here K v) ((K 19 0).toNatClampNeg - f)) 61 v 0) 62 v b) 63 v b) ∧
      (∀ k, 44 ≤ k → (sy_up (ya_stand B v b 1 0) (sy_vw v) 5 b) k = K k) ∧ (∀ k, k ≤ 44 ∨ 76 < k → (sy_up (sy_up (sy_up (ym_inw τ K f p (ya_here K v) ((K 19 0).toNatClampNeg - f)) 61 v 0) 62 v b) 63 v b) k = τ k) := by
  have hb := yv_lt hv
  have h4 := yg_n19 I
  have o1 := O.1
  have g := yi_in I M hv O ht ((K 19 0).toNatClampNeg - f) (by omega)
  unfold yo_in at g
  rw [e] at g
  obtain ⟨g1, g2, g3, g4, g5, g6⟩ := g
  obtain ⟨q1, q2, _⟩ := g6 (by omega)
  have g4 : yo_hi K B := g4
  have q1 : yl B b := q1
  have g1' : yn_I (t + 4) B := yn_I_to g1 (by omega)
  have hD : sD B b = B (sy_vw v) 0 := by
    show ya_tg B 2 (-1) (yT B b) = _
    rw [show yT B b = ya_ag K 20 (-1) (nI (f + ((K 19 0).toNatClampNeg - f) - 1)) from q2, ya_tg_c (g4 1 (by omega)) (g4 2 (by omega)), g4 (sy_vw v) (by omega)]
    exact O.2.2.1 _ (by omega) (by omega)
  have hI := yn_stand g1' hv (m := b) (a := 1) (b := 0) (Or.inr ⟨q1, hD⟩) (Or.inr ⟨rfl, yl_ne q1⟩) (Or.inl rfl)
  have e0 : ya_stand B v b 1 0 (sy_vw v) 0 = B (sy_vw v) 0 := by
    rw [ya_stand_at, if_neg (by decide), if_neg (by decide), if_neg (by decide)]
  refine ⟨yn_setpar hI hv (Or.inr ⟨?_, ?_⟩), ?_, fun k hk => ?_, fun k hk => ?_⟩
  · rw [yl_c (ya_stand_ne (by omega))]
    exact q1
  · rw [e0, sD_c (ya_stand_ne (by omega)) (ya_stand_ne (by omega)) (ya_stand_ne (by omega))]
    exact hD
  · refine yr_setpar (yr_stand g2 g1 hv b 1 0 0 ?_) hI hv b
    unfold ya_mode
    rw [ya_stand_at, if_neg (show ¬ (3 = 4) by decide), if_pos rfl, if_pos (by decide)]
  · rw [yu_ne (by omega), ya_stand_ne (by omega), g4 k (by omega)]
  · rw [yu_ne (by omega), yu_ne (by omega), yu_ne (by omega), g5 k (by omega)]
theorem yi_mid (I : yn_I t A) (M : yr_M A τ) (hv : v < 4) (ht : t + 60 < 10000) (hf : (f : Int) < (A 19 0).toInt) (hL : ya_X5_isListOrdered A v = true) (hN : ya_X5_areNewOnesOrdered A f = true)
    (hp : (p = -1 ∧ tP A (ya_ag A 20 (-1) (nI f)) = -1) ∨ (yl A p ∧ yT A p = tP A (ya_ag A 20 (-1) (nI f)) ∧ tP A (ya_ag A 20 (-1) (nI f)) ≠ -1))
    (hd : tK A (ya_ag A 20 (-1) (nI f)) = 0 → ya_X3_hasTwin A (ya_ag A 20 (-1) (nI f)) p (ya_slot A 0 0) = false)
    (hs : (A 10 9).toInt + ((A 19 0).toInt - f) + (ya_gn A f ((A 19 0).toNatClampNeg - f) 27 0).toInt ≤ 60) :
    ∃ K τK, sf_X5_makeNeeded [.ref 0] (ya_gn A f ((A 19 0).toNatClampNeg - f)) = some (.inl none, K) ∧ sf_X6_makes [.ref 44] (ym_gn τ A f ((A 19 0).toNatClampNeg - f)) = some (.inl none, τK) ∧ yn_I (t + 4) K ∧ yr_M K τK ∧ yi_ok K v f p ∧
      (∀ k, 44 ≤ k → K k = A k) ∧ (∀ k, k < 44 ∨ 76 < k → τK k = τ k) ∧ τK 44 36 = τ 44 36 := by
  have h4 := yg_n19 I
  obtain ⟨g1, g2, g3, g4, g5, g6, g7⟩ := yq_gn I M f ((A 19 0).toNatClampNeg - f) (by omega)
  have hsum : (ya_gn A f ((A 19 0).toNatClampNeg - f) 10 9).toInt + (ya_gn A f ((A 19 0).toNatClampNeg - f) 27 0).toInt ≤ 60 := by
    rw [g4 10 (by omega)]
    omega
  have h27 := g1.2.2.2.2.2.2.2.2.2.1
  have hcl : ((ya_gn A f ((A 19 0).toNatClampNeg - f) 27 0).toNatClampNeg : Int) = (ya_gn A f ((A 19 0).toNatClampNeg - f) 27 0).toInt := by rw [yi_clampInt]; omega
  obtain ⟨m1, m2, m3, m4, m5, m6, m7⟩ := yq_mk g1 g2 g3 hsum ht (ya_gn A f ((A 19 0).toNatClampNeg - f) 27 0).toNatClampNeg (by omega)
  refine ⟨_, _, yt_X5_makeNeeded g1 g2 g3 hsum ht, ym_makes g1 g2 g3 hsum ht, yn_I_to m1 (by omega), m2, yi_okK I hv hf hL hN hp hd g4 g6 hcl m4 m6 m7 (by rw [m3, g4 10 (by omega)]; omega), fun k hk => by rw [m4 k (by omega), g4 k (by omega)], fun k hk => by rw [m5 k (by omega), g5.1 k (by omega) (by omega) (by omega)], by rw [m5 44 (by omega), g5.2 36 (by decide)]⟩
theorem yw_insL (I : yn_I t A) (M : yr_M A τ) (hv : v < 4) (ht : t + 70 < 10000) : ∃ st A' τ', sf_X5_insertListed [.ref 0, .ref (sy_vw v)] A = some (.inl (some (.int st)), A') ∧ sf_X6_insertsAll [.ref 44, .int (nI v)] τ = some (.inl (some (.int st)), τ') ∧
    yn_I (t + 8) A' ∧ yr_M A' τ' ∧ (∀ k, 44 ≤ k → A' k = A k) ∧ ym_fw τ τ' ∧ τ' 44 36 = τ 44 36 := by
  have W := yn_Wo I
  have h4 := yg_n19 I
  have e19 := yg_n19e I
  have stay : ∀ {st : Int32}, sf_X5_insertListed [.ref 0, .ref (sy_vw v)] A = some (.inl (some (.int st)), A) → sf_X6_insertsAll [.ref 44, .int (nI v)] τ = some (.inl (some (.int st)), τ) → ∃ st A' τ', sf_X5_insertListed [.ref 0, .ref (sy_vw v)] A = some (.inl (some (.int st)), A') ∧ sf_X6_insertsAll [.ref 44, .int (nI v)] τ = some (.inl (some (.int st)), τ') ∧
      yn_I (t + 8) A' ∧ yr_M A' τ' ∧ (∀ k, 44 ≤ k → A' k = A k) ∧ ym_fw τ τ' ∧ τ' 44 36 = τ 44 36 := fun h1 h2 => ⟨_, A, τ, h1, h2, yn_I_to I (by omega), M, fun _ _ => rfl, fun _ _ => rfl, rfl⟩
  have hm0 : ∀ {env : List Value}, env[0]? = some (.ref 44) → env[1]? = some (.int (nI v)) → sy_cO (sy_cN (sy_cI (sy_iM (sy_cv 6 1 sf_X6_isList) (sy_aR (sy_rL 0) (sy_aI (sy_iL 1) sy_aN))))) (sy_ceq (sy_iF 6 24 (sy_rL 0)) (sy_iK 0)) env τ = some (.inl (!ya_X5_isListOrdered A v || decide (A 19 0 = 0)), τ) := fun h0 h1 => ee_cO (ee_cN (ee_cb (ee_M (ee_aR (ee_R h0) (ee_aI (ee_L h1) ee_aN)) (ee_cv (ym_isList M I hv) rfl)))) (fun _ => ee_cB (em_F24 M (ee_R h0)) ee_K)
  rcases Nat.eq_zero_or_pos (A 19 0).toNatClampNeg with hn | hn
  · refine stay (st := 4) ?_ ?_
    · refine ee_meth ?_ rfl
      unfold sm_X5_insertListed
      refine es_Q (es_SI (ee_M (ee_aR (ee_rF (ee_R rfl) rfl) ee_aN) (ee_cv (yt_X0_firstNew W) rfl)) ?_)
      rw [ya_first_0 I hn]
      exact es_Q (es_It (ee_cOt (ee_cOt ((ee_cB (ee_L rfl) ee_K).trans rfl))) (es_eI ee_K))
    · refine ee_meth ?_ rfl
      unfold sm_X6_insertsAll
      refine es_Q (es_It ((hm0 rfl rfl).trans ?_) (es_eI ee_K))
      rw [e19, hn]
      cases ya_X5_isListOrdered A v <;> rfl
  have hf : ((ya_first A : Nat) : Int) < (A 19 0).toInt := by
    have := ya_first_lt hn
    omega
  have hc0 : decide (A 19 0 = 0) = false := decide_eq_false (fun e => by
    have : (A 19 0).toInt = 0 := by rw [e]; rfl
    omega)
  have hcC : ∀ {env : List Value}, env[0]? = some (.ref 0) → env[1]? = some (.ref (sy_vw v)) → env[2]? = some (.int (nI (ya_first A))) → sy_cO (sy_cO (sy_ceq (sy_iL 2) (sy_iK (-1))) (sy_cN (sy_cI (sy_iM (sy_cv 5 1 sf_X5_isListOrdered) (sy_aR (sy_rL 0) (sy_aR (sy_rL 1) sy_aN)))))) (sy_cN (sy_cI (sy_iM (sy_cv 5 1 sf_X5_areNewOnesOrdered) (sy_aR (sy_rL 0) (sy_aI (sy_iL 2) sy_aN))))) env A = some (.inl (!ya_X5_isListOrdered A v || !ya_X5_areNewOnesOrdered A (ya_first A)), A) := fun h0 h1 h2 =>
    (ee_cO (ee_cO (ee_cB (ee_L h2) ee_K) (fun _ => ee_cN (ee_cb (ee_M (ee_aR (ee_R h0) (ee_aR (ee_R h1) ee_aN)) (ee_cv (yt_X5_isListOrdered W hv) rfl))))) (fun _ => ee_cN (ee_cb (ee_M (ee_aR (ee_R h0) (ee_aI (ee_L h2) ee_aN)) (ee_cv (yt_X5_areNewOnesOrdered W (ya_first A) (by omega)) rfl))))).trans (by rw [decide_eq_false (nI_nem (by omega)), Bool.false_or])
  have hfnC : sy_iM (sy_cv 0 0 sf_X0_firstNew) (sy_aR (sy_rF 5 2 (sy_rL 0)) sy_aN) [.ref 0, .ref (sy_vw v)] A = some (.inl (nI (ya_first A)), A) := by
    rw [← ya_first_eq I hn]
    exact ee_M (ee_aR (ee_rF (ee_R rfl) rfl) ee_aN) (ee_cv (yt_X0_firstNew W) rfl)
  cases hL : ya_X5_isListOrdered A v with
  | false =>
    refine stay (st := 4) ?_ ?_
    · refine ee_meth ?_ rfl
      unfold sm_X5_insertListed
      exact es_Q (es_SI hfnC (es_Q (es_It ((hcC rfl rfl rfl).trans (by rw [hL]; rfl)) (es_eI ee_K))))
    · refine ee_meth ?_ rfl
      unfold sm_X6_insertsAll
      exact es_Q (es_It ((hm0 rfl rfl).trans (by rw [hL]; rfl)) (es_eI ee_K))
  | true =>
  have hmN : ∀ {env : List Value}, env[0]? = some (.ref 44) → env[2]? = some (.int (nI (ya_first A))) → sy_cN (sy_cI (sy_iM (sy_cv 6 1 sf_X6_areNew) (sy_aR (sy_rL 0) (sy_aI (sy_iL 2) sy_aN)))) env τ = some (.inl (!ya_X5_areNewOnesOrdered A (ya_first A)), τ) := fun h0 h2 => ee_cN (ee_cb (ee_M (ee_aR (ee_R h0) (ee_aI (ee_L h2) ee_aN)) (ee_cv (ym_areNew M I hf) rfl)))
  have hfnM : sy_iM (sy_cv 6 0 sf_X6_firstNew) (sy_aR (sy_rL 0) sy_aN) [.ref 44, .int (nI v)] τ = some (.inl (nI (ya_first A)), τ) := ee_M (ee_aR (ee_R rfl) ee_aN) (ee_cv (ym_firstNew M I hn) rfl)
  cases hN : ya_X5_areNewOnesOrdered A (ya_first A) with
  | false =>
    refine stay (st := 4) ?_ ?_
    · refine ee_meth ?_ rfl
      unfold sm_X5_insertListed
      exact es_Q (es_SI hfnC (es_Q (es_It ((hcC rfl rfl rfl).trans (by rw [hL, hN]; rfl)) (es_eI ee_K))))
    · refine ee_meth ?_ rfl
      unfold sm_X6_insertsAll
      exact es_Q (es_If ((hm0 rfl rfl).trans (by rw [hL, hc0]; rfl)) (es_N (es_Q (es_SI hfnM (es_Q (es_It ((hmN rfl rfl).trans (by rw [hN]; rfl)) (es_eI ee_K)))))))
  | true =>
  generalize ya_first A = f at hf hfnC hfnM hcC hmN hN
  have hty := yg_arg I hf
  obtain ⟨hr1, hr2⟩ := yg_par0 I hv hf hN
  have hpC : ∀ {env : List Value}, env[0]? = some (.ref 0) → env[1]? = some (.ref (sy_vw v)) → env[2]? = some (.int (nI f)) → env[3]? = some (.int (ya_ag A 20 (-1) (nI f))) → sy_iQ (sy_cgt (sy_iL 2) (sy_iK 0)) (sy_iM (sy_cv 5 4 sf_X5_firstRight) (sy_aR (sy_rL 0) (sy_aR (sy_rL 1) (sy_aI (sy_iL 2) (sy_aI (sy_iK 0) (sy_aI (sy_iK (-1)) sy_aN)))))) (sy_iM (sy_cv 3 2 sf_X3_upward) (sy_aR (sy_rF 5 1 (sy_rL 0)) (sy_aI (sy_iM (sy_cv 4 0 sf_X4_segmentAt) (sy_aR (sy_rL 1) sy_aN)) (sy_aI (sy_iM (sy_cv 2 1 sf_X2_parentOf) (sy_aR (sy_rF 5 0 (sy_rL 0)) (sy_aI (sy_iL 3) sy_aN))) sy_aN)))) env A = some (.inl (ya_par0 A v f), A) := fun h0 h1 h2 h3 => by
    refine (ee_iQ (ee_cB (ee_L h2) ee_K) (fun _ => ee_M (ee_aR (ee_R h0) (ee_aR (ee_R h1) (ee_aI (ee_L h2) (ee_aI ee_K (ee_aI ee_K ee_aN))))) (ee_cv (yt_X5_firstRight W hv f (by omega) 0 (by omega) (-1)) rfl)) (fun _ => ee_M (ee_aR (ee_rF (ee_R h0) rfl) (ee_aI (ee_M (ee_aR (ee_R h1) ee_aN) (ee_cv (yt_X4_segmentAt _ hv) (yv_rc hv rfl))) (ee_aI (ee_M (ee_aR (ee_rF (ee_R h0) rfl) (ee_aI (ee_L h3) ee_aN)) (ee_cv (yt_X2_parentOf W _) rfl)) ee_aN))) (ee_cv (yt_X3_upward W _ _) rfl))).trans ?_
    rw [show decide ((0 : Int32) < nI f) = decide (0 < f) from decide_eq_decide.mpr (by rw [Int32.lt_iff_toInt_lt, nI_toInt (by omega), yl_c0]; omega)]
    unfold ya_par0
    by_cases h0 : 0 < f
    · rw [decide_eq_true h0, if_pos h0, if_pos rfl]
    · rw [decide_eq_false h0, if_neg h0, if_neg (by decide)]
  have hrt : ya_X2_isRootType A (ya_ag A 20 (-1) (nI f)) = decide (tP A (ya_ag A 20 (-1) (nI f)) = -1) := by
    unfold ya_X2_isRootType
    rw [hty, Bool.true_and, show tP A (ya_ag A 20 (-1) (nI f)) = A 3 (ya_ag A 20 (-1) (nI f)).toNatClampNeg from ya_tg_in hty]
  have hwM : ∀ {env : List Value}, env[0]? = some (.ref 44) → env[2]? = some (.int (nI f)) → sy_iA 0 (sy_rF 6 25 (sy_rL 0)) (sy_iL 2) env τ = some (.inl (ya_ag A 20 (-1) (nI f)), τ) := fun h0 h2 => em_67 M I (ee_rF (ee_R h0) rfl) (ee_L h2) hf
  have hpM : ∀ {env : List Value}, env[0]? = some (.ref 44) → env[1]? = some (.int (nI v)) → env[2]? = some (.int (nI f)) → env[3]? = some (.int (ya_b (decide (tP A (ya_ag A 20 (-1) (nI f)) = -1)))) → sy_iQ (sy_cI (sy_iL 3)) (sy_iK (-1)) (sy_iM (sy_cv 6 2 sf_X6_parentFor) (sy_aR (sy_rL 0) (sy_aI (sy_iL 1) (sy_aI (sy_iL 2) sy_aN)))) env τ = some (.inl (ya_par0 A v f), τ) := fun h0 h1 h2 h3 => by
    refine (ee_iQ (ee_cb (ee_L h3)) (fun _ => ee_K) (fun _ => ee_M (ee_aR (ee_R h0) (ee_aI (ee_L h1) (ee_aI (ee_L h2) ee_aN))) (ee_cv (ym_parentFor M I hv hf hL) rfl))).trans ?_
    by_cases e : tP A (ya_ag A 20 (-1) (nI f)) = -1
    · rw [decide_eq_true e, if_pos rfl, hr1 e]
    · rw [decide_eq_false e, if_neg (by decide)]
  generalize ya_par0 A v f = p at hr1 hr2 hpC hpM
  have htC : ∀ {env : List Value}, env[0]? = some (.ref 0) → env[2]? = some (.int (nI f)) → sy_iM (sy_cv 0 1 sf_X0_typeOf) (sy_aR (sy_rF 5 2 (sy_rL 0)) (sy_aI (sy_iL 2) sy_aN)) env A = some (.inl (ya_ag A 20 (-1) (nI f)), A) := fun h0 h2 => ee_M (ee_aR (ee_rF (ee_R h0) rfl) (ee_aI (ee_L h2) ee_aN)) (ee_cv (yt_X0_typeOf _ _) rfl)
  have hnC : ∀ {env : List Value}, env[0]? = some (.ref 0) → env[3]? = some (.int (ya_ag A 20 (-1) (nI f))) → env[4]? = some (.int p) → sy_cA (sy_ceq (sy_iL 4) (sy_iK (-1))) (sy_cN (sy_cI (sy_iM (sy_cv 2 1 sf_X2_isRootType) (sy_aR (sy_rF 5 0 (sy_rL 0)) (sy_aI (sy_iL 3) sy_aN))))) env A = some (.inl (decide (p = -1) && !decide (tP A (ya_ag A 20 (-1) (nI f)) = -1)), A) := fun h0 h3 h4 =>
    ee_cA (ee_cB (ee_L h4) ee_K) (fun _ => (ee_cN (ee_cb (ee_M (ee_aR (ee_rF (ee_R h0) rfl) (ee_aI (ee_L h3) ee_aN)) (ee_cv (yt_X2_isRootType W _) rfl)))).trans (by rw [hrt]))
  have hdC : ∀ {env : List Value}, env[0]? = some (.ref 0) → env[3]? = some (.int (ya_ag A 20 (-1) (nI f))) → env[4]? = some (.int p) → sy_cA (sy_ceq (sy_iM (sy_cv 2 1 sf_X2_keysOf) (sy_aR (sy_rF 5 0 (sy_rL 0)) (sy_aI (sy_iL 3) sy_aN))) (sy_iK 0)) (sy_cI (sy_iM (sy_cv 3 3 sf_X3_hasTwin) (sy_aR (sy_rF 5 1 (sy_rL 0)) (sy_aI (sy_iL 3) (sy_aI (sy_iL 4) (sy_aI (sy_iM (sy_cv 5 2 sf_X5_slotNumber) (sy_aR (sy_rL 0) (sy_aI (sy_iK 0) (sy_aI (sy_iK 0) sy_aN)))) sy_aN)))))) env A = some (.inl (decide (tK A (ya_ag A 20 (-1) (nI f)) = 0) && ya_X3_hasTwin A (ya_ag A 20 (-1) (nI f)) p (ya_slot A 0 0)), A) := fun h0 h3 h4 =>
    ee_cA (ee_cB (ee_M (ee_aR (ee_rF (ee_R h0) rfl) (ee_aI (ee_L h3) ee_aN)) (ee_cv (yt_X2_keysOf W _) rfl)) ee_K) (fun _ => ee_cb (ee_M (ee_aR (ee_rF (ee_R h0) rfl) (ee_aI (ee_L h3) (ee_aI (ee_L h4) (ee_aI (ee_M (ee_aR (ee_R h0) (ee_aI ee_K (ee_aI ee_K ee_aN))) (ee_cv (yt_X5_slotNumber _ _ _) rfl)) ee_aN)))) (ee_cv (yt_X3_hasTwin W _ _ _) rfl)))
  have hrM : ∀ {env : List Value}, env[0]? = some (.ref 44) → env[2]? = some (.int (nI f)) → sy_iC (sy_ceq (sy_iA 0 (sy_rF 6 2 (sy_rL 0)) (sy_iA 0 (sy_rF 6 25 (sy_rL 0)) (sy_iL 2))) (sy_iK (-1))) env τ = some (.inl (ya_b (decide (tP A (ya_ag A 20 (-1) (nI f)) = -1))), τ) := fun h0 h2 => ee_iC (ee_cB (em_46 M I (ee_rF (ee_R h0) rfl) (hwM h0 h2) hty) ee_K)
  have hnM : ∀ {env : List Value}, env[3]? = some (.int (ya_b (decide (tP A (ya_ag A 20 (-1) (nI f)) = -1)))) → env[4]? = some (.int p) → sy_cA (sy_cN (sy_cI (sy_iL 3))) (sy_ceq (sy_iL 4) (sy_iK (-1))) env τ = some (.inl (decide (p = -1) && !decide (tP A (ya_ag A 20 (-1) (nI f)) = -1)), τ) := fun h3 h4 => (ee_cA (ee_cN (ee_cb (ee_L h3))) (fun _ => ee_cB (ee_L h4) ee_K)).trans (by rw [Bool.and_comm])
  have hdM : ∀ {env : List Value}, env[0]? = some (.ref 44) → env[2]? = some (.int (nI f)) → env[4]? = some (.int p) → sy_cI (sy_iM (sy_cv 6 3 sf_X6_isDouble) (sy_aR (sy_rL 0) (sy_aI (sy_iA 0 (sy_rF 6 25 (sy_rL 0)) (sy_iL 2)) (sy_aI (sy_iL 4) (sy_aI (sy_iA 0 (sy_rF 6 32 (sy_rL 0)) (sy_iK 0)) sy_aN))))) env τ = some (.inl (decide (tK A (ya_ag A 20 (-1) (nI f)) = 0) && ya_X3_hasTwin A (ya_ag A 20 (-1) (nI f)) p (ya_slot A 0 0)), τ) := fun h0 h2 h4 =>
    (ee_cb (ee_M (ee_aR (ee_R h0) (ee_aI (hwM h0 h2) (ee_aI (ee_L h4) (ee_aI ((ee_A (kd := 0) (a := 74) (x := 0) (ee_rF (ee_R h0) rfl) ee_K rfl).trans (by rw [M.2.2.2.2.2.2.2.2.2.2.2, show A 31 (Int32.toNatClampNeg 0) = ya_slot A 0 0 from rfl])) ee_aN)))) (ee_cv (ym_isDouble M I hty _ _) rfl))).trans (by rw [Bool.and_comm])
  cases hb1 : (decide (p = -1) && !decide (tP A (ya_ag A 20 (-1) (nI f)) = -1)) with
  | true =>
    refine stay (st := 7) ?_ ?_
    · refine ee_meth ?_ rfl
      unfold sm_X5_insertListed
      exact es_Q (es_SI hfnC (es_Q (es_If ((hcC rfl rfl rfl).trans (by rw [hL, hN]; rfl)) (es_N (es_Q (es_SI (htC rfl rfl) (es_Q (es_SI (hpC rfl rfl rfl rfl) (es_Q (es_It ((hnC rfl rfl rfl).trans (by rw [hb1])) (es_eI ee_K)))))))))))
    · refine ee_meth ?_ rfl
      unfold sm_X6_insertsAll
      exact es_Q (es_If ((hm0 rfl rfl).trans (by rw [hL, hc0]; rfl)) (es_N (es_Q (es_SI hfnM (es_Q (es_If ((hmN rfl rfl).trans (by rw [hN]; rfl)) (es_N (es_Q (es_SI (hrM rfl rfl) (es_Q (es_SI (hpM rfl rfl rfl rfl) (es_Q (es_It ((hnM rfl rfl).trans (by rw [hb1])) (es_eI ee_K))))))))))))))
  | false =>
  cases hb2 : (decide (tK A (ya_ag A 20 (-1) (nI f)) = 0) && ya_X3_hasTwin A (ya_ag A 20 (-1) (nI f)) p (ya_slot A 0 0)) with
  | true =>
    refine stay (st := 9) ?_ ?_
    · refine ee_meth ?_ rfl
      unfold sm_X5_insertListed
      exact es_Q (es_SI hfnC (es_Q (es_If ((hcC rfl rfl rfl).trans (by rw [hL, hN]; rfl)) (es_N (es_Q (es_SI (htC rfl rfl) (es_Q (es_SI (hpC rfl rfl rfl rfl) (es_Q (es_If ((hnC rfl rfl rfl).trans (by rw [hb1])) (es_N (es_Q (es_It ((hdC rfl rfl rfl).trans (by rw [hb2])) (es_eI ee_K))))))))))))) )
    · refine ee_meth ?_ rfl
      unfold sm_X6_insertsAll
      exact es_Q (es_If ((hm0 rfl rfl).trans (by rw [hL, hc0]; rfl)) (es_N (es_Q (es_SI hfnM (es_Q (es_If ((hmN rfl rfl).trans (by rw [hN]; rfl)) (es_N (es_Q (es_SI (hrM rfl rfl) (es_Q (es_SI (hpM rfl rfl rfl rfl) (es_Q (es_If ((hnM rfl rfl).trans (by rw [hb1])) (es_N (es_Q (es_It ((hdM rfl rfl rfl).trans (by rw [hb2])) (es_eI ee_K)))))))))))))))))
  | false =>
  have hp : (p = -1 ∧ tP A (ya_ag A 20 (-1) (nI f)) = -1) ∨ (yl A p ∧ yT A p = tP A (ya_ag A 20 (-1) (nI f)) ∧ tP A (ya_ag A 20 (-1) (nI f)) ≠ -1) := by
    by_cases ep : p = -1
    · left
      refine ⟨ep, ?_⟩
      rw [decide_eq_true ep, Bool.true_and] at hb1
      by_cases e : tP A (ya_ag A 20 (-1) (nI f)) = -1
      · exact e
      · rw [decide_eq_false e] at hb1
        cases hb1
    · have := hr2 ep
      exact Or.inr ⟨this.1, this.2, fun e => ep (hr1 e)⟩
  have hd : tK A (ya_ag A 20 (-1) (nI f)) = 0 → ya_X3_hasTwin A (ya_ag A 20 (-1) (nI f)) p (ya_slot A 0 0) = false := fun e => by
    rw [decide_eq_true e, Bool.true_and] at hb2
    exact hb2
  obtain ⟨g1, g2, g3, g4, g5, g6, g7⟩ := yq_gn I M f ((A 19 0).toNatClampNeg - f) (by omega)
  have hgC := yt_X5_gatherNeedsOfNew I M (f := f) (by omega)
  have hgM := ym_needsAll I M hf
  have hmid := fun hs => yi_mid (p := p) I M hv (by omega) hf hL hN hp hd hs
  generalize ya_gn A f ((A 19 0).toNatClampNeg - f) = G at g1 g2 g3 g4 g6 g7 hgC hgM hmid
  generalize ym_gn τ A f ((A 19 0).toNatClampNeg - f) = τG at g2 g3 g5 hgM hmid
  have hx : A 19 0 - nI f = nI ((A 19 0).toNatClampNeg - f) := by
    have := nI_subn (i := (A 19 0).toNatClampNeg) (j := f) (by omega) (by omega)
    rw [← e19] at this
    exact this
  have hC : ∀ {r : Option (((Option Value) ⊕ Nat) × sy_Mem)}, (sy_sQ (sy_sI (sy_ceq (sy_iL 5) (sy_iK 0)) (sy_sQ (sy_sC (sy_cv 5 0 sf_X5_makeNeeded) (sy_aR (sy_rL 0) sy_aN)) (sy_sC (sy_cv 5 3 sf_X5_insertNew) (sy_aR (sy_rL 0) (sy_aR (sy_rL 1) (sy_aI (sy_iL 2) (sy_aI (sy_iL 4) sy_aN)))))) sy_sN) (sy_eI (sy_iL 5))) [.ref 0, .ref (sy_vw v), .int (nI f), .int (ya_ag A 20 (-1) (nI f)), .int p, .int (if G 27 1 = 0 then (if decide (60 < G 10 9 + nI ((A 19 0).toNatClampNeg - f) + G 27 0) = true then 11 else 0) else 10)] (fun _ => sy_fail) G = r → sf_X5_insertListed [.ref 0, .ref (sy_vw v)] A = r := fun h => by
    refine ee_meth ?_ rfl
    unfold sm_X5_insertListed
    refine es_Q (es_SI hfnC (es_Q (es_If ((hcC rfl rfl rfl).trans (by rw [hL, hN]; rfl)) (es_N (es_Q (es_SI (htC rfl rfl) ?_))))))
    refine es_Q (es_SI (hpC rfl rfl rfl rfl) (es_Q (es_If ((hnC rfl rfl rfl).trans (by rw [hb1])) (es_N (es_Q (es_If ((hdC rfl rfl rfl).trans (by rw [hb2])) (es_N (es_Q ?_))))))))
    refine es_C (ee_aR (ee_R rfl) (ee_aI (ee_L rfl) ee_aN)) (ee_cv hgC rfl) (es_Q (es_SI (σ1 := G) (ee_M (ee_aR (ee_R rfl) (ee_aI (x := nI ((A 19 0).toNatClampNeg - f)) ((ee_B (ee_M (ee_aR (ee_rF (ee_R rfl) rfl) ee_aN) (ee_cv (yt_X0_size _) rfl)) (ee_L rfl)).trans (by rw [g4 19 (by omega), hx])) ee_aN)) (ee_cv (yt_X5_statusOfNeeds g7 _) rfl)) h))
  have hMi : sy_cN (sy_cI (sy_iM (sy_cv 6 1 sf_X6_needsAll) (sy_aR (sy_rL 0) (sy_aI (sy_iL 2) sy_aN)))) [.ref 44, .int (nI v), .int (nI f), .int (ya_b (decide (tP A (ya_ag A 20 (-1) (nI f)) = -1))), .int p] τ = some (.inl (!decide (G 27 1 = 0)), τG) := ee_cN (ee_cb (ee_M (ee_aR (ee_R rfl) (ee_aI (ee_L rfl) ee_aN)) (ee_cv hgM rfl)))
  have gfr : (∀ k, 44 ≤ k → G k = A k) ∧ ym_fw τ τG ∧ τG 44 36 = τ 44 36 := ⟨fun k hk => g4 k (by omega), fun k hk => g5.1 k (by omega) (by omega) (by omega), g5.2 36 (by decide)⟩
  by_cases h27 : G 27 1 = 0
  · rw [if_pos h27] at hC
    rw [decide_eq_true h27] at hMi
    have htot : G 10 9 = A 10 9 := by rw [g4 10 (by omega)]
    have hw := I.2.2.1.1
    have hw2 := I.2.2.1.2.1
    have a0 := hw 0 (by decide)
    have a1 := hw 1 (by decide)
    have a2 := hw 2 (by decide)
    have h270 := g1.2.2.2.2.2.2.2.2.2.1
    have hsumI : (G 10 9 + nI ((A 19 0).toNatClampNeg - f) + G 27 0).toInt = (A 10 9).toInt + ((A 19 0).toInt - f) + (G 27 0).toInt := by
      have en : (nI ((A 19 0).toNatClampNeg - f)).toInt = (A 19 0).toInt - f := by rw [nI_toInt (by omega)]; omega
      have e1 : (G 10 9 + nI ((A 19 0).toNatClampNeg - f)).toInt = (A 10 9).toInt + ((A 19 0).toInt - f) := by
        rw [yl_add (by rw [htot]; omega) (by rw [htot]; omega) (by omega) (by omega), htot, en]
      rw [yl_add (by omega) (by omega) (by omega) (by omega), e1]
    have hMf : sy_cgt (sy_iSub (sy_iAdd (sy_iAdd (sy_iM (sy_cv 6 0 sf_X6_all) (sy_aR (sy_rL 0) sy_aN)) (sy_iF 6 33 (sy_rL 0))) (sy_iF 6 24 (sy_rL 0))) (sy_iL 2)) (sy_iK 60) [.ref 44, .int (nI v), .int (nI f), .int (ya_b (decide (tP A (ya_ag A 20 (-1) (nI f)) = -1))), .int p] τG = some (.inl (decide (60 < G 10 9 + nI ((A 19 0).toNatClampNeg - f) + G 27 0)), τG) :=
      (ee_cB (ee_B (ee_B (ee_B (ee_M (ee_aR (ee_R rfl) ee_aN) (ee_cv (ym_all g2 g1) rfl)) ((ee_F (ee_R rfl) rfl).trans (by rw [g3.1]))) (em_F24 g2 (ee_R rfl))) (ee_L rfl)) ee_K).trans (by rw [yi_rot, g4 19 (by omega), hx])
    cases hfull : decide (60 < G 10 9 + nI ((A 19 0).toNatClampNeg - f) + G 27 0) with
    | true =>
      rw [hfull, if_pos rfl] at hC
      refine ⟨11, G, τG, hC (es_Q (es_If ((ee_cB (ee_L rfl) ee_K).trans rfl) (es_N (es_eI (ee_L rfl))))), ?_, yn_I_to g1 (by omega), g2, gfr⟩
      refine ee_meth ?_ rfl
      unfold sm_X6_insertsAll
      refine es_Q (es_If ((hm0 rfl rfl).trans (by rw [hL, hc0]; rfl)) (es_N (es_Q (es_SI hfnM (es_Q (es_If ((hmN rfl rfl).trans (by rw [hN]; rfl)) (es_N (es_Q (es_SI (hrM rfl rfl) ?_)))))))))
      refine es_Q (es_SI (hpM rfl rfl rfl rfl) (es_Q (es_If ((hnM rfl rfl).trans (by rw [hb1])) (es_N (es_Q (es_If ((hdM rfl rfl rfl).trans (by rw [hb2])) (es_N (es_Q ?_))))))))
      refine es_If hMi (es_N (es_Q (es_It (hMf.trans (by rw [hfull])) (es_eI ee_K))))
    | false =>
      rw [hfull, if_neg (by decide)] at hC
      have hle : (A 10 9).toInt + ((A 19 0).toInt - f) + (G 27 0).toInt ≤ 60 := by
        have := of_decide_eq_false hfull
        rw [Int32.lt_iff_toInt_lt, hsumI, yl_c60] at this
        omega
      obtain ⟨K, τK, m1, m2, m3, m4, m5, m6, m7, m8⟩ := hmid hle
      obtain ⟨⟨B, b⟩, e⟩ : ∃ x, ya_inw K f p (ya_here K v) ((K 19 0).toNatClampNeg - f) = x := ⟨_, rfl⟩
      obtain ⟨q1, q2, q3, q4⟩ := yi_fin m3 m4 hv m5 (by omega) e
      have i1 := yt_X5_insertNew m3 m4 hv m5 (by omega) e
      refine ⟨0, _, _, hC (es_Q (es_It ((ee_cB (ee_L rfl) ee_K).trans rfl) (es_Q (es_C (ee_aR (ee_R rfl) ee_aN) (ee_cv m1 rfl) (es_C (ee_aR (ee_R rfl) (ee_aR (ee_R rfl) (ee_aI (ee_L rfl) (ee_aI (ee_L rfl) ee_aN)))) (ee_cv i1 rfl) (es_eI (ee_L rfl))))))), ?_, yn_I_to q1 (by omega), q2, fun k hk => (q3 k hk).trans (m6 k hk), fun k hk => (q4 k (by omega)).trans (m7 k hk), by rw [q4 44 (by omega)]; exact m8⟩
      refine ee_meth ?_ rfl
      unfold sm_X6_insertsAll
      refine es_Q (es_If ((hm0 rfl rfl).trans (by rw [hL, hc0]; rfl)) (es_N (es_Q (es_SI hfnM (es_Q (es_If ((hmN rfl rfl).trans (by rw [hN]; rfl)) (es_N (es_Q (es_SI (hrM rfl rfl) ?_)))))))))
      refine es_Q (es_SI (hpM rfl rfl rfl rfl) (es_Q (es_If ((hnM rfl rfl).trans (by rw [hb1])) (es_N (es_Q (es_If ((hdM rfl rfl rfl).trans (by rw [hb2])) (es_N (es_Q ?_))))))))
      refine es_If hMi (es_N (es_Q (es_If (hMf.trans (by rw [hfull])) (es_N (es_Q (es_C (ee_aR (ee_R rfl) ee_aN) (ee_cv m2 rfl) ?_))))))
      exact ym_insertNew m3 m4 hv m5 (by omega) e
  · rw [if_neg h27] at hC
    rw [decide_eq_false h27] at hMi
    refine ⟨10, G, τG, hC (es_Q (es_If ((ee_cB (ee_L rfl) ee_K).trans rfl) (es_N (es_eI (ee_L rfl))))), ?_, yn_I_to g1 (by omega), g2, gfr⟩
    refine ee_meth ?_ rfl
    unfold sm_X6_insertsAll
    refine es_Q (es_If ((hm0 rfl rfl).trans (by rw [hL, hc0]; rfl)) (es_N (es_Q (es_SI hfnM (es_Q (es_If ((hmN rfl rfl).trans (by rw [hN]; rfl)) (es_N (es_Q (es_SI (hrM rfl rfl) ?_)))))))))
    refine es_Q (es_SI (hpM rfl rfl rfl rfl) (es_Q (es_If ((hnM rfl rfl).trans (by rw [hb1])) (es_N (es_Q (es_If ((hdM rfl rfl rfl).trans (by rw [hb2])) (es_N (es_Q ?_))))))))
    exact es_It hMi (es_eI ee_K)
end YIe
