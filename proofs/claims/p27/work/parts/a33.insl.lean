section LA33
variable {A B K τ σ : sy_Mem} {t f m v : Nat} {ty key p here : Int32}
/-- what insert asks of the list -/
def ig (A : sy_Mem) (v : Nat) : Bool := decide (0 < lsN A) && (ya_X5_isListOrdered A v && ya_X5_areNewOnesOrdered A (ya_first A))
theorem ct_ins4 (I : yn_I t A) (hv : v < 4) (h : ig A v = false) : sf_X5_insertListed [.ref 0, .ref (sy_vw v)] A = some (.inl (some (.int 4)), A) := by
  have W := yn_Wo I
  have h4 := yg_n19 I
  have e19 := yg_n19e I
  rcases Nat.eq_zero_or_pos (A 19 0).toNatClampNeg with hn | hn
  · refine ee_meth ?_ rfl
    unfold sm_X5_insertListed
    refine es_Q (es_SI (ee_M (ee_aR (ee_rF (ee_R rfl) rfl) ee_aN) (ee_cv (yt_X0_firstNew W) rfl)) ?_)
    rw [ya_first_0 I hn]
    exact es_Q (es_It (ee_cOt (ee_cOt ((ee_cB (ee_L rfl) ee_K).trans rfl))) (es_eI ee_K))
  have hf : ((ya_first A : Nat) : Int) < (A 19 0).toInt := by
    have := ya_first_lt hn
    omega
  have hcC : ∀ {env : List Value}, env[0]? = some (.ref 0) → env[1]? = some (.ref (sy_vw v)) → env[2]? = some (.int (nI (ya_first A))) → sy_cO (sy_cO (sy_ceq (sy_iL 2) (sy_iK (-1))) (sy_cN (sy_cI (sy_iM (sy_cv 5 1 sf_X5_isListOrdered) (sy_aR (sy_rL 0) (sy_aR (sy_rL 1) sy_aN)))))) (sy_cN (sy_cI (sy_iM (sy_cv 5 1 sf_X5_areNewOnesOrdered) (sy_aR (sy_rL 0) (sy_aI (sy_iL 2) sy_aN))))) env A = some (.inl (!ya_X5_isListOrdered A v || !ya_X5_areNewOnesOrdered A (ya_first A)), A) := fun h0 h1 h2 =>
    (ee_cO (ee_cO (ee_cB (ee_L h2) ee_K) (fun _ => ee_cN (ee_cb (ee_M (ee_aR (ee_R h0) (ee_aR (ee_R h1) ee_aN)) (ee_cv (yt_X5_isListOrdered W hv) rfl))))) (fun _ => ee_cN (ee_cb (ee_M (ee_aR (ee_R h0) (ee_aI (ee_L h2) ee_aN)) (ee_cv (yt_X5_areNewOnesOrdered W (ya_first A) (by omega)) rfl))))).trans (by rw [decide_eq_false (nI_nem (by omega)), Bool.false_or])
  have hfnC : sy_iM (sy_cv 0 0 sf_X0_firstNew) (sy_aR (sy_rF 5 2 (sy_rL 0)) sy_aN) [.ref 0, .ref (sy_vw v)] A = some (.inl (nI (ya_first A)), A) := by
    rw [← ya_first_eq I hn]
    exact ee_M (ee_aR (ee_rF (ee_R rfl) rfl) ee_aN) (ee_cv (yt_X0_firstNew W) rfl)
  have h' : (ya_X5_isListOrdered A v && ya_X5_areNewOnesOrdered A (ya_first A)) = false := by
    unfold ig at h
    rw [decide_eq_true (show 0 < lsN A from hn), Bool.true_and] at h
    exact h
  refine ee_meth ?_ rfl
  unfold sm_X5_insertListed
  refine es_Q (es_SI hfnC (es_Q (es_It ((hcC rfl rfl rfl).trans ?_) (es_eI ee_K))))
  cases hL : ya_X5_isListOrdered A v with
  | false => rfl
  | true =>
    rw [hL, Bool.true_and] at h'
    rw [h']
    rfl
/-- what insert comes to, for a list that it can take -/
theorem ct_insL {G : sy_Mem} {b : Int32} (I : yn_I t A) (hv : v < 4) (ht : t + 70 < 10000) (hg : ig A v = true) (hff : ya_first A = f) (hpp : ya_par0 A v f = p) (hGG : ya_gn A f ((A 19 0).toNatClampNeg - f) = G) (hKK : ya_mk G (G 27 0).toNatClampNeg = K) (e : ya_inw K f p (ya_here K v) ((K 19 0).toNatClampNeg - f) = (B, b)) :
    ((decide (p = -1) && !decide (tP A (ya_ag A 20 (-1) (nI f)) = -1)) = true → sf_X5_insertListed [.ref 0, .ref (sy_vw v)] A = some (.inl (some (.int 7)), A)) ∧
    ((decide (p = -1) && !decide (tP A (ya_ag A 20 (-1) (nI f)) = -1)) = false → ((p = -1 ∧ tP A (ya_ag A 20 (-1) (nI f)) = -1) ∨ (yl A p ∧ yT A p = tP A (ya_ag A 20 (-1) (nI f)) ∧ tP A (ya_ag A 20 (-1) (nI f)) ≠ -1)) ∧
      ((decide (tK A (ya_ag A 20 (-1) (nI f)) = 0) && ya_X3_hasTwin A (ya_ag A 20 (-1) (nI f)) p (ya_slot A 0 0)) = true → sf_X5_insertListed [.ref 0, .ref (sy_vw v)] A = some (.inl (some (.int 9)), A)) ∧
      ((decide (tK A (ya_ag A 20 (-1) (nI f)) = 0) && ya_X3_hasTwin A (ya_ag A 20 (-1) (nI f)) p (ya_slot A 0 0)) = false →
        (G 27 1 ≠ 0 → sf_X5_insertListed [.ref 0, .ref (sy_vw v)] A = some (.inl (some (.int 10)), G)) ∧
        (G 27 1 = 0 → (60 < (A 10 9).toInt + ((A 19 0).toInt - f) + (G 27 0).toInt → sf_X5_insertListed [.ref 0, .ref (sy_vw v)] A = some (.inl (some (.int 11)), G)) ∧
          (¬ 60 < (A 10 9).toInt + ((A 19 0).toInt - f) + (G 27 0).toInt → yn_I (t + 4) K ∧ yi_ok K v f p ∧ sf_X5_insertListed [.ref 0, .ref (sy_vw v)] A = some (.inl (some (.int 0)), sy_up (ya_stand B v b 1 0) (sy_vw v) 5 b) ∧ yn_I (t + 8) (sy_up (ya_stand B v b 1 0) (sy_vw v) 5 b))))) := by
  have W := yn_Wo I
  have h4 := yg_n19 I
  have e19 := yg_n19e I
  unfold ig at hg
  rw [Bool.and_eq_true, Bool.and_eq_true, decide_eq_true_eq, hff] at hg
  obtain ⟨hn, hL, hN⟩ := hg
  have hn : 0 < (A 19 0).toNatClampNeg := hn
  have hf : (f : Int) < (A 19 0).toInt := by
    have := ya_first_lt hn
    omega
  have hcC : ∀ {env : List Value}, env[0]? = some (.ref 0) → env[1]? = some (.ref (sy_vw v)) → env[2]? = some (.int (nI (f))) → sy_cO (sy_cO (sy_ceq (sy_iL 2) (sy_iK (-1))) (sy_cN (sy_cI (sy_iM (sy_cv 5 1 sf_X5_isListOrdered) (sy_aR (sy_rL 0) (sy_aR (sy_rL 1) sy_aN)))))) (sy_cN (sy_cI (sy_iM (sy_cv 5 1 sf_X5_areNewOnesOrdered) (sy_aR (sy_rL 0) (sy_aI (sy_iL 2) sy_aN))))) env A = some (.inl (!ya_X5_isListOrdered A v || !ya_X5_areNewOnesOrdered A (f)), A) := fun h0 h1 h2 =>
    (ee_cO (ee_cO (ee_cB (ee_L h2) ee_K) (fun _ => ee_cN (ee_cb (ee_M (ee_aR (ee_R h0) (ee_aR (ee_R h1) ee_aN)) (ee_cv (yt_X5_isListOrdered W hv) rfl))))) (fun _ => ee_cN (ee_cb (ee_M (ee_aR (ee_R h0) (ee_aI (ee_L h2) ee_aN)) (ee_cv (yt_X5_areNewOnesOrdered W (f) (by omega)) rfl))))).trans (by rw [decide_eq_false (nI_nem (by omega)), Bool.false_or])
  have hfnC : sy_iM (sy_cv 0 0 sf_X0_firstNew) (sy_aR (sy_rF 5 2 (sy_rL 0)) sy_aN) [.ref 0, .ref (sy_vw v)] A = some (.inl (nI f), A) := by
    rw [← hff, ← ya_first_eq I hn]
    exact ee_M (ee_aR (ee_rF (ee_R rfl) rfl) ee_aN) (ee_cv (yt_X0_firstNew W) rfl)
  have hty := yg_arg I hf
  obtain ⟨hr1, hr2⟩ := yg_par0 I hv hf hN
  rw [hpp] at hr1 hr2
  have hpC : ∀ {env : List Value}, env[0]? = some (.ref 0) → env[1]? = some (.ref (sy_vw v)) → env[2]? = some (.int (nI f)) → env[3]? = some (.int (ya_ag A 20 (-1) (nI f))) → sy_iQ (sy_cgt (sy_iL 2) (sy_iK 0)) (sy_iM (sy_cv 5 4 sf_X5_firstRight) (sy_aR (sy_rL 0) (sy_aR (sy_rL 1) (sy_aI (sy_iL 2) (sy_aI (sy_iK 0) (sy_aI (sy_iK (-1)) sy_aN)))))) (sy_iM (sy_cv 3 2 sf_X3_upward) (sy_aR (sy_rF 5 1 (sy_rL 0)) (sy_aI (sy_iM (sy_cv 4 0 sf_X4_segmentAt) (sy_aR (sy_rL 1) sy_aN)) (sy_aI (sy_iM (sy_cv 2 1 sf_X2_parentOf) (sy_aR (sy_rF 5 0 (sy_rL 0)) (sy_aI (sy_iL 3) sy_aN))) sy_aN)))) env A = some (.inl p, A) := fun h0 h1 h2 h3 => by
    rw [← hpp]
    refine (ee_iQ (ee_cB (ee_L h2) ee_K) (fun _ => ee_M (ee_aR (ee_R h0) (ee_aR (ee_R h1) (ee_aI (ee_L h2) (ee_aI ee_K (ee_aI ee_K ee_aN))))) (ee_cv (yt_X5_firstRight W hv f (by omega) 0 (by omega) (-1)) rfl)) (fun _ => ee_M (ee_aR (ee_rF (ee_R h0) rfl) (ee_aI (ee_M (ee_aR (ee_R h1) ee_aN) (ee_cv (yt_X4_segmentAt _ hv) (yv_rc hv rfl))) (ee_aI (ee_M (ee_aR (ee_rF (ee_R h0) rfl) (ee_aI (ee_L h3) ee_aN)) (ee_cv (yt_X2_parentOf W _) rfl)) ee_aN))) (ee_cv (yt_X3_upward W _ _) rfl))).trans ?_
    rw [show decide ((0 : Int32) < nI f) = decide (0 < f) from decide_eq_decide.mpr (by rw [Int32.lt_iff_toInt_lt, nI_toInt (by omega), yl_c0]; omega)]
    unfold ya_par0
    by_cases h0 : 0 < f
    · rw [decide_eq_true h0, if_pos h0, if_pos rfl]
    · rw [decide_eq_false h0, if_neg h0, if_neg (by decide)]
  have hrt : ya_X2_isRootType A (ya_ag A 20 (-1) (nI f)) = decide (tP A (ya_ag A 20 (-1) (nI f)) = -1) := by
    unfold ya_X2_isRootType
    rw [hty, Bool.true_and, show tP A (ya_ag A 20 (-1) (nI f)) = A 3 (ya_ag A 20 (-1) (nI f)).toNatClampNeg from ya_tg_in hty]
  have htC : ∀ {env : List Value}, env[0]? = some (.ref 0) → env[2]? = some (.int (nI f)) → sy_iM (sy_cv 0 1 sf_X0_typeOf) (sy_aR (sy_rF 5 2 (sy_rL 0)) (sy_aI (sy_iL 2) sy_aN)) env A = some (.inl (ya_ag A 20 (-1) (nI f)), A) := fun h0 h2 => ee_M (ee_aR (ee_rF (ee_R h0) rfl) (ee_aI (ee_L h2) ee_aN)) (ee_cv (yt_X0_typeOf _ _) rfl)
  have hnC : ∀ {env : List Value}, env[0]? = some (.ref 0) → env[3]? = some (.int (ya_ag A 20 (-1) (nI f))) → env[4]? = some (.int p) → sy_cA (sy_ceq (sy_iL 4) (sy_iK (-1))) (sy_cN (sy_cI (sy_iM (sy_cv 2 1 sf_X2_isRootType) (sy_aR (sy_rF 5 0 (sy_rL 0)) (sy_aI (sy_iL 3) sy_aN))))) env A = some (.inl (decide (p = -1) && !decide (tP A (ya_ag A 20 (-1) (nI f)) = -1)), A) := fun h0 h3 h4 =>
    ee_cA (ee_cB (ee_L h4) ee_K) (fun _ => (ee_cN (ee_cb (ee_M (ee_aR (ee_rF (ee_R h0) rfl) (ee_aI (ee_L h3) ee_aN)) (ee_cv (yt_X2_isRootType W _) rfl)))).trans (by rw [hrt]))
  have hdC : ∀ {env : List Value}, env[0]? = some (.ref 0) → env[3]? = some (.int (ya_ag A 20 (-1) (nI f))) → env[4]? = some (.int p) → sy_cA (sy_ceq (sy_iM (sy_cv 2 1 sf_X2_keysOf) (sy_aR (sy_rF 5 0 (sy_rL 0)) (sy_aI (sy_iL 3) sy_aN))) (sy_iK 0)) (sy_cI (sy_iM (sy_cv 3 3 sf_X3_hasTwin) (sy_aR (sy_rF 5 1 (sy_rL 0)) (sy_aI (sy_iL 3) (sy_aI (sy_iL 4) (sy_aI (sy_iM (sy_cv 5 2 sf_X5_slotNumber) (sy_aR (sy_rL 0) (sy_aI (sy_iK 0) (sy_aI (sy_iK 0) sy_aN)))) sy_aN)))))) env A = some (.inl (decide (tK A (ya_ag A 20 (-1) (nI f)) = 0) && ya_X3_hasTwin A (ya_ag A 20 (-1) (nI f)) p (ya_slot A 0 0)), A) := fun h0 h3 h4 =>
    ee_cA (ee_cB (ee_M (ee_aR (ee_rF (ee_R h0) rfl) (ee_aI (ee_L h3) ee_aN)) (ee_cv (yt_X2_keysOf W _) rfl)) ee_K) (fun _ => ee_cb (ee_M (ee_aR (ee_rF (ee_R h0) rfl) (ee_aI (ee_L h3) (ee_aI (ee_L h4) (ee_aI (ee_M (ee_aR (ee_R h0) (ee_aI ee_K (ee_aI ee_K ee_aN))) (ee_cv (yt_X5_slotNumber _ _ _) rfl)) ee_aN)))) (ee_cv (yt_X3_hasTwin W _ _ _) rfl)))
  refine ⟨fun hb1 => ?_, fun hb1 => ⟨?_, fun hb2 => ?_, fun hb2 => ?_⟩⟩
  · refine ee_meth ?_ rfl
    unfold sm_X5_insertListed
    exact es_Q (es_SI hfnC (es_Q (es_If ((hcC rfl rfl rfl).trans (by rw [hL, hN]; rfl)) (es_N (es_Q (es_SI (htC rfl rfl) (es_Q (es_SI (hpC rfl rfl rfl rfl) (es_Q (es_It ((hnC rfl rfl rfl).trans (by rw [hb1])) (es_eI ee_K)))))))))))
  · by_cases ep : p = -1
    · left
      refine ⟨ep, ?_⟩
      rw [decide_eq_true ep, Bool.true_and] at hb1
      by_cases e : tP A (ya_ag A 20 (-1) (nI f)) = -1
      · exact e
      · rw [decide_eq_false e] at hb1
        cases hb1
    · have := hr2 ep
      exact Or.inr ⟨this.1, this.2, fun e => ep (hr1 e)⟩
  · refine ee_meth ?_ rfl
    unfold sm_X5_insertListed
    exact es_Q (es_SI hfnC (es_Q (es_If ((hcC rfl rfl rfl).trans (by rw [hL, hN]; rfl)) (es_N (es_Q (es_SI (htC rfl rfl) (es_Q (es_SI (hpC rfl rfl rfl rfl) (es_Q (es_If ((hnC rfl rfl rfl).trans (by rw [hb1])) (es_N (es_Q (es_It ((hdC rfl rfl rfl).trans (by rw [hb2])) (es_eI ee_K))))))))))))) )
  have hp : (p = -1 ∧ tP A (ya_ag A 20 (-1) (nI f)) = -1) ∨ (yl A p ∧ yT A p = tP A (ya_ag A 20 (-1) (nI f)) ∧ tP A (ya_ag A 20 (-1) (nI f)) ≠ -1) := by
    by_cases ep : p = -1
    · left
      refine ⟨ep, ?_⟩
      rw [decide_eq_true ep, Bool.true_and] at hb1
      by_cases e : tP A (ya_ag A 20 (-1) (nI f)) = -1
      · exact e
      · rw [decide_eq_false e] at hb1
        cases hb1
    · have := hr2 ep
      exact Or.inr ⟨this.1, this.2, fun e => ep (hr1 e)⟩
  have hd : tK A (ya_ag A 20 (-1) (nI f)) = 0 → ya_X3_hasTwin A (ya_ag A 20 (-1) (nI f)) p (ya_slot A 0 0) = false := fun e => by
    rw [decide_eq_true e, Bool.true_and] at hb2
    exact hb2
  obtain ⟨g1, g3, g4, g6, g7⟩ := qc_gn I f ((A 19 0).toNatClampNeg - f) (by omega)
  have hgC := ct_gather I (f := f) (by omega)
  rw [hGG] at g1 g3 g4 g6 g7 hgC
  have hx : A 19 0 - nI f = nI ((A 19 0).toNatClampNeg - f) := by
    have := nI_subn (i := (A 19 0).toNatClampNeg) (j := f) (by omega) (by omega)
    rw [← e19] at this
    exact this
  have hC : ∀ {r : Option (((Option Value) ⊕ Nat) × sy_Mem)}, (sy_sQ (sy_sI (sy_ceq (sy_iL 5) (sy_iK 0)) (sy_sQ (sy_sC (sy_cv 5 0 sf_X5_makeNeeded) (sy_aR (sy_rL 0) sy_aN)) (sy_sC (sy_cv 5 3 sf_X5_insertNew) (sy_aR (sy_rL 0) (sy_aR (sy_rL 1) (sy_aI (sy_iL 2) (sy_aI (sy_iL 4) sy_aN)))))) sy_sN) (sy_eI (sy_iL 5))) [.ref 0, .ref (sy_vw v), .int (nI f), .int (ya_ag A 20 (-1) (nI f)), .int p, .int (if G 27 1 = 0 then (if decide (60 < G 10 9 + nI ((A 19 0).toNatClampNeg - f) + G 27 0) = true then 11 else 0) else 10)] (fun _ => sy_fail) G = r → sf_X5_insertListed [.ref 0, .ref (sy_vw v)] A = r := fun h => by
    refine ee_meth ?_ rfl
    unfold sm_X5_insertListed
    refine es_Q (es_SI hfnC (es_Q (es_If ((hcC rfl rfl rfl).trans (by rw [hL, hN]; rfl)) (es_N (es_Q (es_SI (htC rfl rfl) ?_))))))
    refine es_Q (es_SI (hpC rfl rfl rfl rfl) (es_Q (es_If ((hnC rfl rfl rfl).trans (by rw [hb1])) (es_N (es_Q (es_If ((hdC rfl rfl rfl).trans (by rw [hb2])) (es_N (es_Q ?_))))))))
    refine es_C (ee_aR (ee_R rfl) (ee_aI (ee_L rfl) ee_aN)) (ee_cv hgC rfl) (es_Q (es_SI (σ1 := G) (ee_M (ee_aR (ee_R rfl) (ee_aI (x := nI ((A 19 0).toNatClampNeg - f)) ((ee_B (ee_M (ee_aR (ee_rF (ee_R rfl) rfl) ee_aN) (ee_cv (yt_X0_size _) rfl)) (ee_L rfl)).trans (by rw [g4 19 (by omega), hx])) ee_aN)) (ee_cv (yt_X5_statusOfNeeds g7 _) rfl)) h))
  refine ⟨fun h27 => ?_, fun h27 => ?_⟩
  · rw [if_neg h27] at hC
    exact hC (es_Q (es_If ((ee_cB (ee_L rfl) ee_K).trans rfl) (es_N (es_eI (ee_L rfl)))))
  rw [if_pos h27] at hC
  have htot : G 10 9 = A 10 9 := by rw [g4 10 (by omega)]
  have hw := I.2.2.1.1
  have hw2 := I.2.2.1.2.1
  have a0 := hw 0 (by decide)
  have a1 := hw 1 (by decide)
  have a2 := hw 2 (by decide)
  have h270 := g1.2.2.2.2.2.2.2.2.2.1
  have hsumI : (G 10 9 + nI ((A 19 0).toNatClampNeg - f) + G 27 0).toInt = (A 10 9).toInt + ((A 19 0).toInt - f) + (G 27 0).toInt := by
    have en : (nI ((A 19 0).toNatClampNeg - f)).toInt = (A 19 0).toInt - f := by rw [nI_toInt (by omega)]; omega
    have e1 : (G 10 9 + nI ((A 19 0).toNatClampNeg - f)).toInt = (A 10 9).toInt + ((A 19 0).toInt - f) := by
      rw [yl_add (by rw [htot]; omega) (by rw [htot]; omega) (by omega) (by omega), htot, en]
    rw [yl_add (by omega) (by omega) (by omega) (by omega), e1]
  have hfl : decide (60 < G 10 9 + nI ((A 19 0).toNatClampNeg - f) + G 27 0) = decide (60 < (A 10 9).toInt + ((A 19 0).toInt - f) + (G 27 0).toInt) := by
    rw [decide_eq_decide, Int32.lt_iff_toInt_lt, hsumI, yl_c60]
  rw [hfl] at hC
  refine ⟨fun hfull => ?_, fun hfull => ?_⟩
  · rw [decide_eq_true hfull, if_pos rfl] at hC
    exact hC (es_Q (es_If ((ee_cB (ee_L rfl) ee_K).trans rfl) (es_N (es_eI (ee_L rfl)))))
  · rw [decide_eq_false hfull, if_neg (by decide)] at hC
    have hsum : (G 10 9).toInt + (G 27 0).toInt ≤ 60 := by rw [htot]; omega
    have hcl : ((G 27 0).toNatClampNeg : Int) = (G 27 0).toInt := by rw [yi_clampInt]; omega
    obtain ⟨m1, m3, m4, m6, m7⟩ := qc_mk g1 g3 hsum (by omega) (G 27 0).toNatClampNeg (by omega)
    have hmk := ct_makeNeeded g1 g3 hsum (by omega)
    have hok := yi_okK I hv hf hL hN hp hd g4 g6 hcl m4 m6 m7 (by rw [m3, htot]; omega)
    have m1' : yn_I (t + 4) (ya_mk G (G 27 0).toNatClampNeg) := yn_I_to m1 (by have := g3.1.2; omega)
    rw [hKK] at m1' hmk hok m4
    have q1 := ci_fin m1' hv hok (by omega) e
    have i1 := ct_insertNew m1' hv hok (by omega) e
    exact ⟨m1', hok, hC (es_Q (es_It ((ee_cB (ee_L rfl) ee_K).trans rfl) (es_Q (es_C (ee_aR (ee_R rfl) ee_aN) (ee_cv hmk rfl) (es_C (ee_aR (ee_R rfl) (ee_aR (ee_R rfl) (ee_aI (ee_L rfl) (ee_aI (ee_L rfl) ee_aN)))) (ee_cv i1 rfl) (es_eI (ee_L rfl))))))), yn_I_to q1.1 (by omega)⟩
end LA33
