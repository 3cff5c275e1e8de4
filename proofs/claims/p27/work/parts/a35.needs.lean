section LA35
variable {A B G σ τ : sy_Mem} {t n : Nat} {ty key : Int32}
abbrev mG (G σ : sy_Mem) : Prop := mR 53 (G 27 0).toInt.toNat (G 28) (G 29) σ
theorem t_needs (I : yn_I t G) (T : TT G σ) (R : RW G σ) (hty : ya_isT G ty = true) (hk : 0 ≤ key.toInt ∧ key.toInt ≤ 999) (Q : yqc G n) (hn : n < 4) (M : mG G σ) :
    ∃ τ, sf_L_needs [.ref 44, .ref 45, .ref 46, .ref 47, .ref 48, .ref 53, .int ty, .int key] σ = some (.inl (some (.int (ya_b (!(ya_nc0 G ty key || !decide (tC G ty = 0)))))), τ) ∧ mG (ya_nr G ty key) τ ∧ ∀ k, k ≠ 53 → τ k = σ k := by
  have hT : sy_isT 53 σ = true := by
    unfold sy_isT
    rw [M.1]
    rfl
  obtain ⟨-, -, -, -, -, -, -, g⟩ := I.1.2.1 _ hty
  have hc : sy_cO (sy_clt (sy_iL 8) (sy_iK 0)) (sy_cge (sy_iM (sy_cr 7 sf_L_rootOf) (sy_aR (sy_rL 0) (sy_aR (sy_rL 1) (sy_aR (sy_rL 2) (sy_aR (sy_rL 3) (sy_aR (sy_rL 4) (sy_aI (sy_iL 8) (sy_aI (sy_iL 7) sy_aN)))))))) (sy_iK 0)) [.ref 44, .ref 45, .ref 46, .ref 47, .ref 48, .ref 53, .int ty, .int key, .int (tG G ty)] σ = some (.inl (ya_nc0 G ty key), σ) := by
    unfold ya_nc0
    rcases g with g | ⟨g1, g2⟩
    · rw [decide_eq_true g, Bool.true_or]
      refine ee_cOt (ee_eq (ee_cB (ee_L rfl) ee_K) ?_)
      rw [g]
      rfl
    · have hne : tG G ty ≠ -1 := fun e => by
        have := (isT_12 I g1).1
        rw [e] at this
        exact absurd this (by decide)
      rw [decide_eq_false hne, Bool.false_or]
      have hr := t_rootOf I T R g1 g2 key
      refine ee_cOf (ee_eq (ee_cB (ee_L rfl) ee_K) ?_) (ee_eq (ee_cB (ee_M (ee_aR (ee_R rfl) (ee_aR (ee_R rfl) (ee_aR (ee_R rfl) (ee_aR (ee_R rfl) (ee_aR (ee_R rfl) (ee_aI (ee_L rfl) (ee_aI (ee_L rfl) ee_aN))))))) (ee_cr hr rfl)) ee_K) ?_)
      · refine decide_eq_false ?_
        rw [Int32.lt_iff_toInt_lt]
        have := (isT_12 I g1).1
        show ¬ _ < (0 : Int)
        omega
      · by_cases e : ya_X3_rootOf G (tG G ty) key = -1
        · rw [e]
          rfl
        · have := (yg_pl I (yg_rootOf_l I e)).1
          rw [decide_eq_false e]
          refine decide_eq_true ?_
          rw [Int32.le_iff_toInt_le]
          exact this
  have hC := (ev_K I T hty (env := [.ref 44, .ref 45, .ref 46, .ref 47, .ref 48, .ref 53, .int ty, .int key, .int (tG G ty)]) (r := sy_rL 0) (e := sy_iL 6) (ee_R rfl) (ee_L rfl)).2.2.1
  by_cases e0 : ya_nc0 G ty key = true
  · refine ⟨σ, ?_, ?_, fun _ _ => rfl⟩
    · rw [e0, Bool.true_or]
      exact ke_meth (es_Q (es_SI (ev_g I T hty (ee_R rfl) (ee_L rfl)) (es_Q (es_It (hc.trans (by rw [e0])) (es_eI ee_K))))) (Nat.le_of_ble_eq_true rfl)
    · rw [show ya_nr G ty key = G from by unfold ya_nr; rw [if_pos e0]]
      exact M
  have e0' : ya_nc0 G ty key = false := by simpa using e0
  by_cases e1 : tC G ty = 0
  · refine ⟨σ, ?_, ?_, fun _ _ => rfl⟩
    · rw [e0', decide_eq_true e1]
      refine ke_meth ?_ (Nat.le_of_ble_eq_true rfl)
      exact (es_Q (es_SI (ev_g I T hty (ee_R rfl) (ee_L rfl)) (es_Q (es_If (hc.trans (by rw [e0'])) (es_N (es_Q (es_It (ee_eq (ee_cB hC ee_K) (show decide (tC G ty = 0) = true from decide_eq_true e1)) (es_eI ee_K))))))))
    · have e : ya_nr G ty key = sy_up G 27 1 1 := by unfold ya_nr; rw [if_neg e0, if_pos e1]
      show mR _ _ _ _ _
      rw [e, show sy_up G 27 1 1 27 0 = G 27 0 from yu_an (by decide), show sy_up G 27 1 1 28 = G 28 from yu_ne (by decide), show sy_up G 27 1 1 29 = G 29 from yu_ne (by decide)]
      exact M
  -- noted, or not
  rw [e0', decide_eq_false e1]
  have g' : ya_isT G (tG G ty) = true ∧ tP G (tG G ty) = -1 := yq_tG I hty (by
    unfold ya_nc0 at e0'
    rw [Bool.or_eq_false_iff] at e0'
    exact of_decide_eq_false e0'.1)
  have hu := isT_12 I g'.1
  obtain ⟨q2, q3, q4⟩ := Q
  obtain ⟨c, hcn⟩ : ∃ c, c = (G 27 0).toInt.toNat := ⟨_, rfl⟩
  have hc4 : c < 4 := by omega
  obtain ⟨M1, M2, M3⟩ := M
  rw [← hcn] at M2 M3
  have en : ya_nr G ty key = ya_ndd G (tG G ty) key := by unfold ya_nr; rw [if_neg e0, if_neg e1]
  have e27 : G 27 0 = nI c := (ntI (by omega) (by omega)).symm
  have hcl : (G 27 0).toNatClampNeg = c := by rw [yi_clampInt]; omega
  have hb : ya_nf G (tG G ty) key = ya_ff (fun i => decide (G 28 i = tG G ty) && decide (G 29 i = key)) c 0 := by
    unfold ya_nf
    rw [hcl]
  obtain ⟨b, hbe⟩ : ∃ b, b = (ya_ff (fun i => decide (G 28 i = tG G ty) && decide (G 29 i = key)) c 0).isSome := ⟨_, rfl⟩
  have hval : ∀ env : List Value, env[8]? = some (.int (tG G ty)) → env[7]? = some (.int key) → sy_iAdd (sy_iMul (sy_iK 1000) (sy_iL 8)) (sy_iL 7) env σ = some (.inl (1000 * tG G ty + key), σ) := fun env h1 h2 => ee_B (ee_B ee_K (ee_L h1)) (ee_L h2)
  refine ⟨sy_up (sy_up σ 53 (1 + c) (if b then 0 else 1000 * tG G ty + key)) 53 0 (nI c + (if b then 0 else 1)), ?_, ?_, fun k hk => by rw [up_ne hk, up_ne hk]⟩
  · refine ke_meth ?_ (Nat.le_of_ble_eq_true rfl)
    refine (es_Q (es_SI (ev_g I T hty (ee_R rfl) (ee_L rfl)) (es_Q (es_If (hc.trans (by rw [e0'])) (es_N (es_Q (es_If (ee_eq (ee_cB hC ee_K) (show decide (tC G ty = 0) = false from decide_eq_false e1)) (es_N (es_Q (es_SI ee_K (es_Q (es_B (es_Q (es_SI ee_K ?_))))))))))))))
    refine es_forOr0 (E := fun i b => [.ref 44, .ref 45, .ref 46, .ref 47, .ref 48, .ref 53, .int ty, .int key, .int (tG G ty), .int (ya_b b), .int (nI i)]) (P := fun i => decide (G 28 i = tG G ty) && decide (G 29 i = key)) (N := c) (b := false) (by omega) (fun i b hi => ?_) (fun b => ?_) (fun i b hi k' => ?_) ?_
    · refine ee_eq (ee_cB (ee_L rfl) (ee_T (j := 0) (ee_R rfl) ee_K hT (by decide))) ?_
      rw [M2, nI_ltd (by omega) (by omega)]
      exact decide_eq_true hi
    · refine ee_eq (ee_cB (ee_L rfl) (ee_T (j := 0) (ee_R rfl) ee_K hT (by decide))) ?_
      rw [M2, nI_ltd (by omega) (by omega)]
      exact decide_eq_false (by omega)
    · refine es_Q (es_SI (ee_iC (ee_eq (ee_cO (ee_cb (c := b) (ee_L rfl)) (fun _ => ee_cB (ee_T (j := 1 + i) (ee_R rfl) (ee_eq (ee_B ee_K (ee_L rfl)) (show nI 1 + nI i = nI (1 + i) from nadd)) hT (show 1 + i < 5 by omega)) (hval _ rfl rfl))) (y := b || (decide (G 28 i = tG G ty) && decide (G 29 i = key))) ?_)) (es_In rfl ?_))
      · rw [M3 i hi]
        obtain ⟨a1, a2, a3, a4⟩ := q3 i (by omega)
        have := (code_dv (isT_12 I a1) a3).2.2 (tG G ty) key hu hk
        rw [show decide (1000 * G 28 i + G 29 i = 1000 * tG G ty + key) = (decide (G 28 i = tG G ty) && decide (G 29 i = key)) from (by rw [← Bool.decide_and]; exact decide_eq_decide.mpr this)]
      · exact congrArg (fun z => k' [.ref 44, .ref 45, .ref 46, .ref 47, .ref 48, .ref 53, .int ty, .int key, .int (tG G ty), .int (ya_b (b || (decide (G 28 i = tG G ty) && decide (G 29 i = key)))), .int z] σ) (nadd (a := i) (b := 1))
    · rw [Bool.false_or, ← hbe]
      refine es_Q (es_WT (j := 1 + c) (ee_R rfl) (ee_eq (ee_B ee_K (ee_T (j := 0) (ee_R rfl) ee_K hT (by decide))) (by rw [M2]; exact nadd (a := 1) (b := c))) (ee_iQ (ee_cb (c := b) (ee_L rfl)) (fun _ => ee_K) (fun _ => hval _ rfl rfl)) hT (show 1 + c < 5 by omega) ?_)
      have hT2 : sy_isT 53 (sy_up σ 53 (1 + c) (if b then 0 else 1000 * tG G ty + key)) = true := by
        unfold sy_isT
        rw [up_ne (by decide), M1]
        rfl
      refine es_Q (es_AT (j := 0) (ee_R rfl) ee_K hT2 (ee_iQ (ee_cb (c := b) (ee_L rfl)) (fun _ => ee_K) (fun _ => ee_K)) hT2 (by decide) ?_)
      rw [show sy_up σ 53 (1 + c) (if b then 0 else 1000 * tG G ty + key) 53 0 = nI c from by rw [up_at, if_neg (by omega), M2]]
      exact es_eI ee_K
  · rw [en]
    have hm : ∀ (N : sy_Mem) (c' : Nat), (N 27 0).toInt.toNat = c' → (sy_up (sy_up σ 53 (1 + c) (if b then 0 else 1000 * tG G ty + key)) 53 0 (nI c + (if b then 0 else 1)) 53 0 = nI c') → (∀ i, i < c' → sy_up (sy_up σ 53 (1 + c) (if b then 0 else 1000 * tG G ty + key)) 53 0 (nI c + (if b then 0 else 1)) 53 (1 + i) = 1000 * N 28 i + N 29 i) → mG N (sy_up (sy_up σ 53 (1 + c) (if b then 0 else 1000 * tG G ty + key)) 53 0 (nI c + (if b then 0 else 1))) := fun N c' h1 h2 h3 => by
      show mR _ _ _ _ _
      rw [h1]
      exact ⟨by rw [up_ne (by decide), up_ne (by decide)]; exact M1, h2, h3⟩
    have hold : ∀ i, i < c → sy_up (sy_up σ 53 (1 + c) (if b then 0 else 1000 * tG G ty + key)) 53 0 (nI c + (if b then 0 else 1)) 53 (1 + i) = 1000 * G 28 i + G 29 i := fun i hi => by
      rw [up_at, if_neg (by omega), up_at, if_neg (by omega)]
      exact M3 i hi
    cases en2 : ya_nf G (tG G ty) key with
    | some j =>
      have e2 : ya_ndd G (tG G ty) key = G := by unfold ya_ndd; rw [en2]; rfl
      have hbt : b = true := by rw [hbe, ← hb, en2]; rfl
      rw [e2]
      refine hm G c hcn.symm ?_ hold
      rw [up_at, if_pos rfl, hbt]
      exact nadd (b := 0)
    | none =>
      have e2 : ya_ndd G (tG G ty) key = sy_up (sy_up (sy_up G 28 c (tG G ty)) 29 c key) 27 0 (G 27 0 + 1) := by unfold ya_ndd; rw [en2, hcl]; rfl
      have hbf : b = false := by rw [hbe, ← hb, en2]; rfl
      rw [e2]
      have x27 : sy_up (sy_up (sy_up G 28 c (tG G ty)) 29 c key) 27 0 (G 27 0 + 1) 27 0 = nI (c + 1) := by
        rw [yu_at, e27]
        exact nadd (b := 1)
      refine hm _ (c + 1) (by rw [x27, nI_toInt (by omega)]; omega) ?_ (fun i hi => ?_)
      · rw [up_at, if_pos rfl, hbf]
        exact nadd (b := 1)
      · rw [show sy_up (sy_up (sy_up G 28 c (tG G ty)) 29 c key) 27 0 (G 27 0 + 1) 28 = upd (G 28) c (tG G ty) from by rw [yu_ne (by decide), yu_ne (by decide), yu_eq], show sy_up (sy_up (sy_up G 28 c (tG G ty)) 29 c key) 27 0 (G 27 0 + 1) 29 = upd (G 29) c key from by rw [yu_ne (by decide), yu_eq, yu_ne (by decide)]]
        by_cases ei : i = c
        · rw [ei, upd_at, upd_at, up_at, if_neg (by omega), up_at, if_pos rfl, hbf]
          rfl
        · rw [upd_ne ei, upd_ne ei]
          exact hold i (by omega)
end LA35
