section LA46
variable {A B G K M τ σ : sy_Mem} {t n N v : Nat} {hl : Nat → Int32} {kp : Nat → Bool} {st : Int32}
theorem qc_gh (I : yn_I t A) (hN : N ≤ 4) (hlv : ∀ i, i < N → yl A (hl i)) : ∀ n : Nat, n ≤ N → yn_I t (ya_gh A hl kp n) ∧ yqc (ya_gh A hl kp n) n ∧ yq_f A (ya_gh A hl kp n) ∧ (ya_gh A hl kp n 27 1 = 0 ∨ ya_gh A hl kp n 27 1 = 1)
  | 0, _ => by
    obtain ⟨g1, g3, g4, g6, g7, -⟩ := qc_start I (P := fun _ _ => True)
    exact ⟨g1, g3, g4, Or.inl g7⟩
  | n + 1, h => by
    obtain ⟨g1, g3, g4, g7⟩ := qc_gh I hN hlv n (by omega)
    by_cases ho : ya_hk A hl kp n = true
    · rw [show ya_gh A hl kp (n + 1) = ya_gh A hl kp n from if_pos ho]
      obtain ⟨q2, q3, q4⟩ := g3
      exact ⟨g1, ⟨⟨q2.1, by omega⟩, q3, q4⟩, g4, g7⟩
    · rw [show ya_gh A hl kp (n + 1) = ya_nr (ya_gh A hl kp n) (yT A (hl n)) (ya_slot A (nI n) 2) from if_neg ho]
      have hty : ya_isT (ya_gh A hl kp n) (yT A (hl n)) = true := by
        rw [ya_isT_c (g4 1 (by decide))]
        exact (I.2.1.1 _ (hlv n (by omega))).1
      have hk := ya_slot_rng I (nI n) 2
      have hI := qn_nr g1 g3 (by omega) hty hk
      exact ⟨hI, qc_nr g1 g3 (by omega) hty hk, yq_f_trans g4 ya_nr_f, hI.2.2.2.2.2.2.2.2.2.2⟩
theorem ct_gatherH (I : yn_I t A) (hv : v < 4) : sf_X5_gatherNeedsOfHeld [.ref 0, .ref (sy_vw v)] A = some (.inl none, ya_gh A (fun i => ya_held A v (nI i)) (fun i => ya_kept A v (nI i)) (A (sy_vw v) 6).toNatClampNeg) := by
  have hb := yv_lt hv
  obtain ⟨h1, h4, h6⟩ := yv_hold I hv
  have hlv : ∀ i, i < (A (sy_vw v) 6).toNatClampNeg → yl A ((fun i => ya_held A v (nI i)) i) := fun i hi => (yv_held I hv (by omega)).2.2
  refine ee_meth ?_ rfl
  unfold sm_X5_gatherNeedsOfHeld
  refine es_Q (es_Q (es_C (σ2 := ya_gh A (fun i => ya_held A v (nI i)) (fun i => ya_kept A v (nI i)) 0) (ee_aR (ee_rF (ee_R rfl) rfl) ee_aN) rfl (es_B (es_Q (es_SI ee_K0 ?_)))))
  refine es_loop (E := fun n => [.ref 0, .ref (sy_vw v), .int (nI n)]) (S := fun n => ya_gh A (fun i => ya_held A v (nI i)) (fun i => ya_kept A v (nI i)) n) (A (sy_vw v) 6).toNatClampNeg 0 1000 (by omega) (fun n _ h2 => ?_) ?_ (fun n _ h2 k' => ?_) ?_
  · have g := qc_gh (kp := fun i => ya_kept A v (nI i)) I h4 hlv n (by omega)
    exact (es_cB (B := A (sy_vw v) 6) rfl ((ee_M (ee_aR (ee_R rfl) ee_aN) (ee_cv (yt_X4_heldCount _ hv) (yv_rc hv rfl))).trans (by rw [g.2.2.1 (sy_vw v) (by omega)])) (by omega)).trans (by rw [decide_eq_true (by omega)])
  · have g := qc_gh (kp := fun i => ya_kept A v (nI i)) I h4 hlv (0 + (A (sy_vw v) 6).toNatClampNeg) (by omega)
    exact (es_cB (B := A (sy_vw v) 6) rfl ((ee_M (ee_aR (ee_R rfl) ee_aN) (ee_cv (yt_X4_heldCount _ hv) (yv_rc hv rfl))).trans (by rw [g.2.2.1 (sy_vw v) (by omega)])) (by omega)).trans (by rw [decide_eq_false (by omega)])
  · obtain ⟨g1, g3, g4, g7⟩ := qc_gh (kp := fun i => ya_kept A v (nI i)) I h4 hlv n (by omega)
    have W := yn_Wo g1
    have es : ∀ a b : Int32, ya_slot (ya_gh A (fun i => ya_held A v (nI i)) (fun i => ya_kept A v (nI i)) n) a b = ya_slot A a b := fun a b => ya_slot_c (g4 31 (by decide)) a b
    have eh : ya_held (ya_gh A (fun i => ya_held A v (nI i)) (fun i => ya_kept A v (nI i)) n) v (nI n) = ya_held A v (nI n) := ya_held_c (g4 _ (by omega)) (g4 _ (by omega)) _
    have ek : ya_kept (ya_gh A (fun i => ya_held A v (nI i)) (fun i => ya_kept A v (nI i)) n) v (nI n) = ya_kept A v (nI n) := ya_kept_c (g4 _ (by omega)) (g4 _ (by omega)) _
    refine es_Q (es_B (es_Q (es_SI (x := ya_held A v (nI n)) (σ1 := ya_gh A (fun i => ya_held A v (nI i)) (fun i => ya_kept A v (nI i)) n) ((ee_M (ee_aR (ee_R rfl) (ee_aI (ee_L rfl) ee_aN)) (ee_cv (yt_X4_heldAt _ hv _) (yv_rc hv rfl))).trans (by rw [eh])) (es_Q (es_SI (x := ya_slot A (nI n) 2) (σ1 := ya_gh A (fun i => ya_held A v (nI i)) (fun i => ya_kept A v (nI i)) n) ((ee_M (ee_aR (ee_R rfl) (ee_aI (ee_L rfl) (ee_aI ee_K ee_aN))) (ee_cv (yt_X5_slotNumber _ _ _) rfl)).trans (by rw [es])) ?_)))))
    have hcond : sy_cA (sy_cN (sy_cI (sy_iM (sy_cv 4 1 sf_X4_isKept) (sy_aR (sy_rL 1) (sy_aI (sy_iL 2) sy_aN))))) (sy_cne (sy_iM (sy_cv 3 2 sf_X3_numberOf) (sy_aR (sy_rF 5 1 (sy_rL 0)) (sy_aI (sy_iL 3) (sy_aI (sy_iK 2) sy_aN)))) (sy_iL 4)) [.ref 0, .ref (sy_vw v), .int (nI n), .int (ya_held A v (nI n)), .int (ya_slot A (nI n) 2)] (ya_gh A (fun i => ya_held A v (nI i)) (fun i => ya_kept A v (nI i)) n) = some (.inl (!ya_hk A (fun i => ya_held A v (nI i)) (fun i => ya_kept A v (nI i)) n), ya_gh A (fun i => ya_held A v (nI i)) (fun i => ya_kept A v (nI i)) n) := by
      refine (ee_cA (ee_cN (ee_cb (ee_M (ee_aR (ee_R rfl) (ee_aI (ee_L rfl) ee_aN)) (ee_cv (yt_X4_isKept _ hv _) (yv_rc hv rfl))))) (fun _ => ee_cB (ee_M (ee_aR (ee_rF (ee_R rfl) rfl) (ee_aI (ee_L rfl) (ee_aI ee_K ee_aN))) (ee_cv (yt_X3_numberOf _ _ _) rfl)) (ee_L rfl))).trans ?_
      rw [ek, ya_N_nd g4]
      unfold ya_hk
      rw [Bool.not_or]
    by_cases ho : ya_hk A (fun i => ya_held A v (nI i)) (fun i => ya_kept A v (nI i)) n = true
    · rw [show ya_gh A (fun i => ya_held A v (nI i)) (fun i => ya_kept A v (nI i)) (n + 1) = ya_gh A (fun i => ya_held A v (nI i)) (fun i => ya_kept A v (nI i)) n from if_pos ho]
      exact es_If (hcond.trans (by rw [ho]; rfl)) (es_N (es_In1 rfl rfl))
    · rw [show ya_gh A (fun i => ya_held A v (nI i)) (fun i => ya_kept A v (nI i)) (n + 1) = ya_nr (ya_gh A (fun i => ya_held A v (nI i)) (fun i => ya_kept A v (nI i)) n) (yT A (ya_held A v (nI n))) (ya_slot A (nI n) 2) from if_neg ho]
      exact es_It (hcond.trans (by rw [show ya_hk A (fun i => ya_held A v (nI i)) (fun i => ya_kept A v (nI i)) n = false by simpa using ho]; rfl)) (es_C (ee_aR (ee_R rfl) (ee_aI (x := yT A (ya_held A v (nI n))) ((ee_M (ee_aR (ee_rF (ee_R rfl) rfl) (ee_aI (ee_L rfl) ee_aN)) (ee_cv (yt_X3_typeOf _ _) rfl)).trans (by rw [ya_sg_c (g4 11 (by decide))])) (ee_aI (ee_L rfl) ee_aN))) (ee_cv (yt_X5_needRoot W g3.1.1 (by have := g3.1.2; omega) _ _) rfl) (es_In1 rfl rfl))
  · rw [Nat.zero_add]
    rfl

theorem ct_rep6 (hv : v < 4) (h6 : A (sy_vw v) 6 = 0) : sf_X5_replaceHeld [.ref 0, .ref (sy_vw v)] A = some (.inl (some (.int 6)), A) := by
  have hcC : ∀ {env : List Value}, env[1]? = some (.ref (sy_vw v)) → sy_ceq (sy_iM (sy_cv 4 0 sf_X4_heldCount) (sy_aR (sy_rL 1) sy_aN)) (sy_iK 0) env A = some (.inl (decide (A (sy_vw v) 6 = 0)), A) := fun h1 => ee_cB (ee_M (ee_aR (ee_R h1) ee_aN) (ee_cv (yt_X4_heldCount _ hv) (yv_rc hv rfl))) ee_K
  refine ee_meth ?_ rfl
  unfold sm_X5_replaceHeld
  exact es_Q (es_It ((hcC rfl).trans (by rw [decide_eq_true h6])) (es_eI ee_K))
theorem ct_repH (I : yn_I t A) (hv : v < 4) (ht : t + 70 < 10000) (h6 : A (sy_vw v) 6 = 1) (hhl : (fun i => ya_held A v (nI i)) = hl) (hkp : (fun i => ya_kept A v (nI i)) = kp) (hG : ya_gh A hl kp 1 = G) (hK : ya_mk G (G 27 0).toNatClampNeg = K) :
    (ya_sk A hl kp 1 = false → sf_X5_replaceHeld [.ref 0, .ref (sy_vw v)] A = some (.inl (some (.int 8)), A)) ∧
    (ya_sk A hl kp 1 = true → (G 27 1 ≠ 0 → sf_X5_replaceHeld [.ref 0, .ref (sy_vw v)] A = some (.inl (some (.int 10)), G)) ∧
      (G 27 1 = 0 → (60 < (A 10 9).toInt + (G 27 0).toInt → sf_X5_replaceHeld [.ref 0, .ref (sy_vw v)] A = some (.inl (some (.int 11)), G)) ∧
        (¬ 60 < (A 10 9).toInt + (G 27 0).toInt → sf_X5_replaceHeld [.ref 0, .ref (sy_vw v)] A = some (.inl (some (.int 0)), ya_fk K hl kp 3)))) := by
  have W := yn_Wo I
  have hb := yv_lt hv
  obtain ⟨q1, q4, q6⟩ := yv_hold I hv
  have hwk := ya_sk_wck I hv
  have hN1 : (A (sy_vw v) 6).toNatClampNeg = 1 := by rw [h6]; rfl
  have hlv : ∀ i, i < 1 → yl A ((fun i => ya_held A v (nI i)) i) := fun i hi => (yv_held I hv (by omega)).2.2
  have hcC : ∀ {env : List Value}, env[1]? = some (.ref (sy_vw v)) → sy_ceq (sy_iM (sy_cv 4 0 sf_X4_heldCount) (sy_aR (sy_rL 1) sy_aN)) (sy_iK 0) env A = some (.inl (decide (A (sy_vw v) 6 = 0)), A) := fun h1 => ee_cB (ee_M (ee_aR (ee_R h1) ee_aN) (ee_cv (yt_X4_heldCount _ hv) (yv_rc hv rfl))) ee_K
  have hwC : ∀ {env : List Value}, env[0]? = some (.ref 0) → env[1]? = some (.ref (sy_vw v)) → sy_cI (sy_iM (sy_cv 5 1 sf_X5_wouldChangeKey) (sy_aR (sy_rL 0) (sy_aR (sy_rL 1) sy_aN))) env A = some (.inl (ya_X5_wouldChangeKey A v), A) := fun h0 h1 => ee_cb (ee_M (ee_aR (ee_R h0) (ee_aR (ee_R h1) ee_aN)) (ee_cv (yt_X5_wouldChangeKey W hv) rfl))
  have h0 : ¬ A (sy_vw v) 6 = 0 := by rw [h6]; decide
  have hgC := ct_gatherH I hv
  rw [hN1, hhl, hkp] at hwk
  rw [hN1, hhl, hkp, hG] at hgC
  rw [hhl] at hlv
  obtain ⟨a1, a3, a4, a7⟩ := qc_gh (kp := kp) I (show 1 ≤ 4 by omega) hlv 1 (Nat.le_refl _)
  rw [hG] at a1 a3 a4 a7
  refine ⟨fun hsk => ?_, fun hsk => ?_⟩
  · rw [hsk] at hwk
    refine ee_meth ?_ rfl
    unfold sm_X5_replaceHeld
    exact es_Q (es_If ((hcC rfl).trans (by rw [decide_eq_false h0])) (es_N (es_Q (es_It ((hwC rfl rfl).trans (by rw [hwk]; rfl)) (es_eI ee_K)))))
  rw [hsk] at hwk
  have hC : ∀ {r : Option (((Option Value) ⊕ Nat) × sy_Mem)}, (sy_sQ (sy_sI (sy_ceq (sy_iL 2) (sy_iK 0)) (sy_sQ (sy_sC (sy_cv 5 0 sf_X5_makeNeeded) (sy_aR (sy_rL 0) sy_aN)) (sy_sC (sy_cv 5 1 sf_X5_fillHeld) (sy_aR (sy_rL 0) (sy_aR (sy_rL 1) sy_aN)))) sy_sN) (sy_eI (sy_iL 2))) [.ref 0, .ref (sy_vw v), .int (if G 27 1 = 0 then (if decide (60 < G 10 9 + 0 + G 27 0) = true then 11 else 0) else 10)] (fun _ => sy_fail) G = r → sf_X5_replaceHeld [.ref 0, .ref (sy_vw v)] A = r := fun h => by
    refine ee_meth ?_ rfl
    unfold sm_X5_replaceHeld
    refine es_Q (es_If ((hcC rfl).trans (by rw [decide_eq_false h0])) (es_N (es_Q (es_If ((hwC rfl rfl).trans (by rw [hwk]; rfl)) (es_N (es_Q ?_))))))
    exact es_C (ee_aR (ee_R rfl) (ee_aR (ee_R rfl) ee_aN)) (ee_cv hgC rfl) (es_Q (es_SI (σ1 := G) (ee_M (ee_aR (ee_R rfl) (ee_aI ee_K ee_aN)) (ee_cv (yt_X5_statusOfNeeds a7 _) rfl)) h))
  refine ⟨fun h27 => ?_, fun h27 => ?_⟩
  · rw [if_neg h27] at hC
    exact hC (es_Q (es_If ((ee_cB (ee_L rfl) ee_K).trans rfl) (es_N (es_eI (ee_L rfl)))))
  rw [if_pos h27] at hC
  have htot : G 10 9 = A 10 9 := by rw [a4 10 (by omega)]
  have hw := I.2.2.1.1
  have hw2 := I.2.2.1.2.1
  have w0 := hw 0 (by decide)
  have w1 := hw 1 (by decide)
  have w2 := hw 2 (by decide)
  have h270 := a3.1
  have hfl : decide (60 < G 10 9 + 0 + G 27 0) = decide (60 < (A 10 9).toInt + (G 27 0).toInt) := by
    rw [decide_eq_decide, Int32.lt_iff_toInt_lt, Int32.add_zero, yl_add (by rw [htot]; omega) (by rw [htot]; omega) (by omega) (by omega), htot, yl_c60]
  rw [hfl] at hC
  refine ⟨fun hfull => ?_, fun hfull => ?_⟩
  · rw [decide_eq_true hfull, if_pos rfl] at hC
    exact hC (es_Q (es_If ((ee_cB (ee_L rfl) ee_K).trans rfl) (es_N (es_eI (ee_L rfl)))))
  · rw [decide_eq_false hfull, if_neg (by decide)] at hC
    have hsum : (G 10 9).toInt + (G 27 0).toInt ≤ 60 := by rw [htot]; omega
    have hmk := ct_makeNeeded a1 a3 hsum (by omega)
    rw [hK] at hmk
    obtain ⟨m1, m3, m4, m6, m7⟩ := qc_mk a1 a3 hsum (by omega) (G 27 0).toNatClampNeg (by rw [yi_clampInt]; omega)
    rw [hK] at m1 m4 m6
    have hvA : ∀ k, 32 ≤ k → K k = A k := fun k hk => by rw [m4 k (by omega), a4 k (by omega)]
    have e1 : (fun i : Nat => ya_held K v (nI i)) = hl := by
      rw [← hhl]
      funext i
      exact ya_held_c (hvA _ (by omega)) (hvA _ (by omega)) _
    have e2 : (fun i : Nat => ya_kept K v (nI i)) = kp := by
      rw [← hkp]
      funext i
      exact ya_kept_c (hvA _ (by omega)) (hvA _ (by omega)) _
    have fC := yt_X5_fillHeld (K := K) hv (N := 1) (by rw [hvA _ (by omega), h6]; rfl) (by omega) (fun i hi => by
      have := congrFun e1 i
      rw [show ya_held K v (nI i) = hl i from this]
      exact (m6 _ (by rw [yl_c (a4 11 (by omega))]; exact hlv i hi)).1)
    rw [e1, e2] at fC
    exact hC (es_Q (es_It ((ee_cB (ee_L rfl) ee_K).trans rfl) (es_Q (es_C (ee_aR (ee_R rfl) ee_aN) (ee_cv hmk rfl) (es_C (ee_aR (ee_R rfl) (ee_aR (ee_R rfl) ee_aN)) (ee_cv fC rfl) (es_eI (ee_L rfl)))))))
theorem h_replace (hv : v < 4) (h : sf_X5_replaceHeld [.ref 0, .ref (sy_vw v)] τ = some (.inl (some (.int st)), M)) : sf_L_replace [.ref 0, .int (nI v)] τ = some (.inl (some (.int st)), sy_up (sy_up M (sy_vw v) 6 0) 19 0 0) := by
  have hc : sf_X5_replace [.ref 0, .int (nI v)] τ = some (.inl (some (.int st)), sy_up (sy_up M (sy_vw v) 6 0) 19 0 0) := by
    have e := (vw4 hv).2
    have hvo := yt_X5_viewOf τ (nI v)
    rw [e] at hvo
    refine ee_meth ?_ rfl
    unfold sm_X5_replace
    refine es_Q ((es_SRx (ee_aR (ee_R rfl) (ee_aI (ee_L rfl) ee_aN)) (ee_cv hvo rfl) (r := some (.inl (some (.int st)), sy_up (sy_up M (sy_vw v) 6 0) 19 0 0)) (fun hx => ?_)).trans (by rw [if_pos (vw4 hv).1]))
    refine es_Q (es_SI (ee_M (ee_aR (ee_R rfl) (ee_aR (ee_R rfl) ee_aN)) (ee_cv h rfl)) ?_)
    refine es_Q (es_C (ee_aR (ee_R rfl) ee_aN) (ee_cv (yt_X4_release M hv) (yv_rc hv rfl)) ?_)
    exact es_Q (es_E (ee_M (ee_aR (ee_rF (ee_R rfl) rfl) ee_aN) (ee_cv (yt_X0_drop _) rfl)) (es_eI (ee_L rfl)))
  exact ke_meth (kh_I (ee_aR (ee_R rfl) (ee_aI (ee_L rfl) ee_aN)) (ee_cv hc rfl)) (Nat.le_of_ble_eq_true rfl)
end LA46
