section YG7
variable {σ τ A : sy_Mem} {t : Nat}
theorem yr_setpar (M : yr_M A τ) (I : yn_I t A) {v : Nat} (hv : v < 4) (s : Int32) : yr_M (sy_up A (sy_vw v) 5 s) (sy_up τ 63 v s) := by
  have hb := yv_lt hv
  have hk : ∀ k, k ≠ sy_vw v → sy_up A (sy_vw v) 5 s k = A k := fun k h => yu_ne h
  have hj : ∀ k, k ≠ 63 → sy_up τ 63 v s k = τ k := fun k h => yu_ne h
  refine yr_M_v M I (v := v) (fun k h => hk k (by omega)) (congrFun (hj 44 (by decide)) 0) (fun k h1 h2 => hj k (by omega)) (fun w hw hwv => ?_) ?_ (yr_A_c M.2.2.2 (fun k h1 h2 => hk k (by omega)) (congrFun (hj 44 (by decide)) 24) (fun k h1 h2 => hj k (by omega)) (by rw [hj 74 (by decide), hk 31 (by omega)]; exact M.2.2.2.2.2.2.2.2.2.2.2))
  · have hvn := yv_ne hwv
    refine ⟨⟨hk _ hvn.1, hk _ hvn.2.2.2.1, hk _ hvn.2.2.2.2.2.2.1⟩, fun k h1 h2 => ?_, fun i hi => by rw [hj 65 (by decide), hj 66 (by decide)]; exact ⟨rfl, rfl⟩⟩
    by_cases e : k = 63
    · rw [e, yu_an hwv]
    · rw [hj k e]
  · obtain ⟨m0, m1, m2, m3, m4, m5, m6⟩ := M.2.2.1 v hv
    have hmode : ya_mode (sy_up A (sy_vw v) 5 s) v = ya_mode A v := by
      unfold ya_mode
      rw [yu_an (by decide), yu_an (by decide), yu_an (by decide)]
    have s6 : sy_up A (sy_vw v) 5 s (sy_vw v) 6 = A (sy_vw v) 6 := yu_an (by decide)
    refine ⟨?_, ?_, ?_, ?_, ?_, ?_, ?_⟩
    · rw [hj 59 (by decide), yu_an (by decide)]; exact m0
    · rw [hj 60 (by decide), yu_an (by decide)]; exact m1
    · rw [hj 61 (by decide), hmode]; exact m2
    · rw [hj 62 (by decide), yu_an (by decide)]; exact m3
    · rw [yu_at, yu_at]
    · rw [hj 64 (by decide), s6]; exact m5
    · rw [s6, hj 65 (by decide), hj 66 (by decide), hk _ (by omega), hk _ (by omega)]; exact m6
theorem yr_stand (M : yr_M A τ) (I : yn_I t A) {v : Nat} (hv : v < 4) (m a b md : Int32) (hmd : md = ya_mode (ya_stand A v m a b) v) : yr_M (ya_stand A v m a b) (sy_up (sy_up τ 61 v md) 62 v m) := by
  have hb := yv_lt hv
  have hk : ∀ k, k ≠ sy_vw v → ya_stand A v m a b k = A k := fun k h => ya_stand_ne h
  have hj : ∀ k, k ≠ 61 → k ≠ 62 → sy_up (sy_up τ 61 v md) 62 v m k = τ k := fun k h1 h2 => by rw [yu_ne h2, yu_ne h1]
  refine yr_M_v M I (v := v) (fun k h => hk k (by omega)) (congrFun (hj 44 (by decide) (by decide)) 0) (fun k h1 h2 => hj k (by omega) (by omega)) (fun w hw hwv => ?_) ?_ (yr_A_c M.2.2.2 (fun k h1 h2 => hk k (by omega)) (congrFun (hj 44 (by decide) (by decide)) 24) (fun k h1 h2 => hj k (by omega) (by omega)) (by rw [hj 74 (by decide) (by decide), hk 31 (by omega)]; exact M.2.2.2.2.2.2.2.2.2.2.2))
  · have hvn := yv_ne hwv
    refine ⟨⟨hk _ hvn.1, hk _ hvn.2.2.2.1, hk _ hvn.2.2.2.2.2.2.1⟩, fun k h1 h2 => ?_, fun i hi => by rw [hj 65 (by decide) (by decide), hj 66 (by decide) (by decide)]; exact ⟨rfl, rfl⟩⟩
    by_cases e : k = 62
    · rw [e, yu_an hwv, yu_ne (by decide)]
    · rw [yu_ne e]
      by_cases e1 : k = 61
      · rw [e1, yu_an hwv]
      · rw [yu_ne e1]
  · obtain ⟨m0, m1, m2, m3, m4, m5, m6⟩ := M.2.2.1 v hv
    have s0 : ya_stand A v m a b (sy_vw v) 0 = A (sy_vw v) 0 := ya_stand_at
    have s1 : ya_stand A v m a b (sy_vw v) 1 = A (sy_vw v) 1 := ya_stand_at
    have s2 : ya_stand A v m a b (sy_vw v) 2 = m := ya_stand_at
    have s5 : ya_stand A v m a b (sy_vw v) 5 = A (sy_vw v) 5 := ya_stand_at
    have s6 : ya_stand A v m a b (sy_vw v) 6 = A (sy_vw v) 6 := ya_stand_at
    refine ⟨?_, ?_, ?_, ?_, ?_, ?_, ?_⟩
    · rw [hj 59 (by decide) (by decide), s0]; exact m0
    · rw [hj 60 (by decide) (by decide), s1]; exact m1
    · rw [yu_ne (by decide), yu_at]; exact hmd
    · rw [yu_at, s2]
    · rw [hj 63 (by decide) (by decide), s5]; exact m4
    · rw [hj 64 (by decide) (by decide), s6]; exact m5
    · rw [s6, hj 65 (by decide) (by decide), hj 66 (by decide) (by decide), hk _ (by omega), hk _ (by omega)]; exact m6
theorem yu_same {k i : Nat} : sy_up σ k i (σ k i) = σ := by
  funext k' j
  by_cases h : k' = k
  · subst h
    by_cases e : j = i
    · rw [e, yu_at]
    · rw [yu_an e]
  · rw [yu_ne h]
/-- behind i turns of the model's loop over the arguments -/
def ya_cm (A : sy_Mem) (v : Nat) (x : Int32) (h : Bool) (i : Nat) : sy_Mem := if i < (A 19 0).toNatClampNeg then ya_dl A v x h i else ya_deliver A v x h
def ya_cs (A : sy_Mem) (i : Nat) : Nat := if i < (A 19 0).toNatClampNeg ∨ i = 0 then ya_sl A i else ya_sl A ((A 19 0).toNatClampNeg - 1) + 1
def ya_status (A : sy_Mem) (v : Nat) (how x : Int32) : Int32 := if how = 0 then 0 else ya_X5_statusOfStep A (ya_here A v) x
theorem ym_comesTo (M : yr_M A τ) (I : yn_I t A) {v : Nat} (hv : v < 4) (x how : Int32) (h : Bool) (h6 : A (sy_vw v) 6 = 0) (hL : ya_X5_isListOrdered A v = true) (hx : yl A x) (hxD : sD A x = A (sy_vw v) 0) (hR : ya_X5_isRight A v x (A 19 0).toNatClampNeg = true) :
    ∃ τ', sf_X6_comesTo [.ref 44, .int (nI v), .int x, .int how, .int (ya_b h)] τ = some (.inl (some (.int (ya_status A v how x))), τ') ∧ yr_M (ya_got A v how h x) τ' ∧ ym_fr τ τ' := by
  have hb := yv_lt hv
  have h19 := yg_n19 I
  have e19 := yg_n19e I
  have hup : ∀ i, i < (A 19 0).toNatClampNeg → yl A (ya_X3_upward A x (ya_ag A 20 (-1) (nI i))) := fun i hi => (yg_ups I hL hx hR hi).1
  have hdl : ∀ {k : Nat}, k ≠ 31 → k ≤ 31 → ∀ i, ya_dl A v x h i k = A k := fun h1 h2 i => ya_dl_ne A h1 (by omega) (by omega) (by omega) i
  -- the status
  have hst : ∀ kk : List Value → sy_MM (Option Value), (sy_sI (sy_cA (sy_cA (sy_ceq (sy_iF 6 24 (sy_rL 0)) (sy_iK 0)) (sy_cne (sy_iL 3) (sy_iK 0))) (sy_ceq (sy_iA 0 (sy_rF 6 17 (sy_rL 0)) (sy_iL 1)) (sy_iK 0))) (sy_sB 6 (sy_sQ (sy_sSI 6 (sy_iA 0 (sy_rF 6 9 (sy_rL 0)) (sy_iA 0 (sy_rF 6 18 (sy_rL 0)) (sy_iL 1)))) (sy_sSI 5 (sy_iQ (sy_clt (sy_iA 0 (sy_rF 6 5 (sy_rL 0)) (sy_iA 0 (sy_rF 6 9 (sy_rL 0)) (sy_iL 2))) (sy_iA 0 (sy_rF 6 5 (sy_rL 0)) (sy_iL 6))) (sy_iK 1) (sy_iQ (sy_cA (sy_ceq (sy_iA 0 (sy_rF 6 5 (sy_rL 0)) (sy_iA 0 (sy_rF 6 9 (sy_rL 0)) (sy_iL 2))) (sy_iA 0 (sy_rF 6 5 (sy_rL 0)) (sy_iL 6))) (sy_cne (sy_iA 0 (sy_rF 6 9 (sy_rL 0)) (sy_iL 2)) (sy_iL 6))) (sy_iK 2) (sy_iK 0)))))) sy_sN) [.ref 44, .int (nI v), .int x, .int how, .int (ya_b h), .int 0] kk τ = kk [.ref 44, .int (nI v), .int x, .int how, .int (ya_b h), .int (ya_status A v how x)] τ := fun kk => by
    have hc : sy_cA (sy_cA (sy_ceq (sy_iF 6 24 (sy_rL 0)) (sy_iK 0)) (sy_cne (sy_iL 3) (sy_iK 0))) (sy_ceq (sy_iA 0 (sy_rF 6 17 (sy_rL 0)) (sy_iL 1)) (sy_iK 0)) [.ref 44, .int (nI v), .int x, .int how, .int (ya_b h), .int 0] τ = some (.inl ((decide (A 19 0 = 0) && !decide (how = 0)) && decide (ya_mode A v = 0)), τ) :=
      ee_cA (ee_cA (ee_cB (em_F24 M (ee_R rfl)) ee_K) (fun _ => ee_cB (ee_L rfl) ee_K)) (fun _ => ee_cB (em_61 M hv (ee_rF (ee_R rfl) rfl) (ee_L rfl)) ee_K)
    by_cases hq : ((decide (A 19 0 = 0) && !decide (how = 0)) && decide (ya_mode A v = 0)) = true
    · have hq2 := hq
      rw [Bool.and_eq_true, Bool.and_eq_true] at hq2
      obtain ⟨⟨q1, q2⟩, q3⟩ := hq2
      have hl := yg_mode0 I hv q3
      have hT := (I.2.1.1 _ hl).1
      have hTx := (I.2.1.1 _ hx).1
      have hh : ya_here A v = A (sy_vw v) 2 := by
        by_cases e : A (sy_vw v) 3 = 0
        · exact absurd (of_decide_eq_true q3) ((yg_here I hv).1 e).2
        · exact ((yg_here I hv).2 e).1
      refine es_It (hc.trans (by rw [hq])) (es_B (es_Q (es_SI (em_53 M (ee_rF (ee_R rfl) rfl) (em_62 M hv (ee_rF (ee_R rfl) rfl) (ee_L rfl)) (yl_in hl)) (es_SI (ee_iQ (ee_cB (em_49 M I (ee_rF (ee_R rfl) rfl) (em_53 M (ee_rF (ee_R rfl) rfl) (ee_L rfl) (yl_in hx)) hTx) (em_49 M I (ee_rF (ee_R rfl) rfl) (ee_L rfl) hT)) (fun _ => ee_K) (fun _ => ee_iQ (ee_cA (ee_cB (em_49 M I (ee_rF (ee_R rfl) rfl) (em_53 M (ee_rF (ee_R rfl) rfl) (ee_L rfl) (yl_in hx)) hTx) (em_49 M I (ee_rF (ee_R rfl) rfl) (ee_L rfl) hT)) (fun _ => ee_cB (em_53 M (ee_rF (ee_R rfl) rfl) (ee_L rfl) (yl_in hx)) (ee_L rfl))) (fun _ => ee_K) (fun _ => ee_K))) ?_))))
      have e : ya_status A v how x = (if decide (ya_tg A 4 0 (ya_sg A 11 x) < ya_tg A 4 0 (ya_sg A 11 (A (sy_vw v) 2))) then 1 else (if (decide (ya_tg A 4 0 (ya_sg A 11 x) = ya_tg A 4 0 (ya_sg A 11 (A (sy_vw v) 2))) && !decide (ya_sg A 11 x = ya_sg A 11 (A (sy_vw v) 2))) then 2 else 0)) := by
        unfold ya_status ya_X5_statusOfStep
        rw [if_neg (by simpa using q2), hh, of_decide_eq_true q1, decide_eq_false (yl_ne hl)]
        rfl
      rw [e]
      rfl
    · have e : ya_status A v how x = 0 := by
        unfold ya_status
        by_cases e0 : how = 0
        · rw [if_pos e0]
        · rw [if_neg e0]
          unfold ya_X5_statusOfStep
          rw [if_pos]
          by_cases e1 : A 19 0 = 0
          · rw [decide_eq_true e1, decide_eq_false e0] at hq
            have e2 : ya_mode A v ≠ 0 := fun q => hq (by rw [q]; rfl)
            have e3 : A (sy_vw v) 3 = 0 := by
              by_cases e : A (sy_vw v) 3 = 0
              · exact e
              · exact absurd ((yg_here I hv).2 e).2.1 e2
            rw [((yg_here I hv).1 e3).1, decide_eq_true (rfl : (-1 : Int32) = -1), Bool.or_true]
          · rw [decide_eq_true, Bool.true_or]
            rw [Int32.lt_iff_toInt_lt, yl_c0]
            have : (A 19 0).toInt ≠ 0 := fun q => e1 (yi_ext q)
            omega
      rw [e]
      refine es_If (hc.trans (by rw [show ((decide (A 19 0 = 0) && !decide (how = 0)) && decide (ya_mode A v = 0)) = false by simpa using hq])) rfl
  -- the loop
  have hcm : ∀ i, i ≤ (A 19 0).toNatClampNeg → yn_I t (ya_cm A v x h i) ∧ (∀ {k : Nat}, k ≠ 31 → k ≤ 31 → ya_cm A v x h i k = A k) := fun i hi => by
    unfold ya_cm
    by_cases q : i < (A 19 0).toNatClampNeg
    · rw [if_pos q]
      exact ⟨yn_dl I hv h6 hup i hi (by omega), fun h1 h2 => hdl h1 h2 i⟩
    · rw [if_neg q]
      exact ⟨yn_deliver I hv h6 hx hup, fun h1 h2 => ya_deliver_ne A h1 (by omega) (by omega) (by omega)⟩
  obtain ⟨env2, τ2, ⟨rfl, M2, hz, F2⟩, hw⟩ := sy_wh_run (c := sy_clt (sy_iL 8) (sy_iF 6 24 (sy_rL 0))) (s := sy_sQ (sy_sB 9 (sy_sQ (sy_sSI 9 (sy_iM (sy_cv 6 2 sf_X6_among) (sy_aR (sy_rL 0) (sy_aI (sy_iL 2) (sy_aI (sy_iA 0 (sy_rF 6 25 (sy_rL 0)) (sy_iL 8)) sy_aN))))) (sy_sQ (sy_sI (sy_cO (sy_cI (sy_iM (sy_cv 6 2 sf_X6_hasCode) (sy_aR (sy_rL 0) (sy_aI (sy_iL 8) (sy_aI (sy_iK 1) sy_aN))))) (sy_ceq (sy_iL 8) (sy_iSub (sy_iF 6 24 (sy_rL 0)) (sy_iK 1)))) (sy_sQ (sy_sC (sy_cv 6 5 sf_X6_fills) (sy_aR (sy_rL 0) (sy_aI (sy_iL 1) (sy_aI (sy_iL 6) (sy_aI (sy_iL 9) (sy_aI (sy_iL 4) (sy_aI (sy_iQ (sy_cI (sy_iM (sy_cv 6 2 sf_X6_hasCode) (sy_aR (sy_rL 0) (sy_aI (sy_iL 8) (sy_aI (sy_iK 32) sy_aN))))) (sy_iK 1) (sy_iK 0)) sy_aN))))))) (sy_sIn 6 1)) sy_sN) (sy_sSI 7 (sy_iQ (sy_cI (sy_iM (sy_cv 6 2 sf_X6_hasCode) (sy_aR (sy_rL 0) (sy_aI (sy_iL 8) (sy_aI (sy_iK 16) sy_aN))))) (sy_iL 9) (sy_iL 7)))))) (sy_sIn 8 1))
    (I := fun i env σ' => env = [.ref 44, .int (nI v), .int x, .int how, .int (ya_b h), .int (ya_status A v how x), .int (nI (ya_cs A i)), .int (ya_par A x i), .int (nI i)] ∧ (0 < (A 19 0).toNatClampNeg → yr_M (ya_cm A v x h i) σ') ∧ ((A 19 0).toNatClampNeg = 0 → σ' = τ) ∧ ym_fr τ σ') (N := (A 19 0).toNatClampNeg)
    (fun i env σ' hi hI => by
      obtain ⟨rfl, Mi, _, Fi⟩ := hI
      have Mi := Mi (by omega)
      obtain ⟨Ii, hk⟩ := hcm i (by omega)
      have e19' : ya_cm A v x h i 19 = A 19 := hk (by decide) (by decide)
      have ecm : ya_cm A v x h i = ya_dl A v x h i := by unfold ya_cm; rw [if_pos hi]
      have ecs : ya_cs A i = ya_sl A i := by unfold ya_cs; rw [if_pos (Or.inl hi)]
      have hsl := ya_sl_le A i
      have hlst : (i : Int) < (ya_cm A v x h i 19 0).toInt := by rw [e19']; omega
      have hxl : yl (ya_cm A v x h i) x := by rw [yl_c (hk (by decide) (by decide))]; exact hx
      have hag : ya_ag (ya_cm A v x h i) 20 (-1) (nI i) = ya_ag A 20 (-1) (nI i) := ya_ag_c e19' (hk (by decide) (by decide)) _ _
      have hupw : ya_X3_upward (ya_cm A v x h i) x (ya_ag (ya_cm A v x h i) 20 (-1) (nI i)) = ya_X3_upward A x (ya_ag A 20 (-1) (nI i)) := by rw [hag, ya_upward_c (hk (by decide) (by decide)) (hk (by decide) (by decide))]
      have hcode : ∀ c, ya_code (ya_cm A v x h i) (nI i) c = ya_code A (nI i) c := fun c => ya_code_c e19' (hk (by decide) (by decide)) _ _
      refine ⟨(es_cB rfl (em_F24 Mi (ee_R rfl)) (by omega)).trans (by rw [e19', decide_eq_true hi]), ?_⟩
      have hPe : sy_cO (sy_cI (sy_iM (sy_cv 6 2 sf_X6_hasCode) (sy_aR (sy_rL 0) (sy_aI (sy_iL 8) (sy_aI (sy_iK 1) sy_aN))))) (sy_ceq (sy_iL 8) (sy_iSub (sy_iF 6 24 (sy_rL 0)) (sy_iK 1))) [.ref 44, .int (nI v), .int x, .int how, .int (ya_b h), .int (ya_status A v how x), .int (nI (ya_cs A i)), .int (ya_par A x i), .int (nI i), .int (ya_X3_upward A x (ya_ag A 20 (-1) (nI i)))] σ' = some (.inl (ya_code A (nI i) 1 || decide (i + 1 = (A 19 0).toNatClampNeg)), σ') := by
        refine (ee_cO (ee_cb (ee_M (ee_aR (ee_R rfl) (ee_aI (ee_L rfl) (ee_aI ee_K ee_aN))) (ee_cv (ym_hasCode Mi Ii (j := i) hlst 1) rfl))) (fun _ => ee_cB (ee_L rfl) (ee_B (em_F24 Mi (ee_R rfl)) ee_K))).trans ?_
        rw [hcode, e19']
        have e1 : decide (nI i = A 19 0 - 1) = decide (i + 1 = (A 19 0).toNatClampNeg) := by
          rw [decide_eq_decide]
          constructor
          · intro q
            have := congrArg Int32.toInt q
            rw [nI_toInt (by omega), yl_sub (by omega) (by omega) (by decide) (by decide), yl_c1] at this
            omega
          · intro q
            apply yi_ext
            rw [nI_toInt (by omega), yl_sub (by omega) (by omega) (by decide) (by decide), yl_c1]
            omega
        rw [e1]
      have hits : sy_iM (sy_cv 6 2 sf_X6_among) (sy_aR (sy_rL 0) (sy_aI (sy_iL 2) (sy_aI (sy_iA 0 (sy_rF 6 25 (sy_rL 0)) (sy_iL 8)) sy_aN))) [.ref 44, .int (nI v), .int x, .int how, .int (ya_b h), .int (ya_status A v how x), .int (nI (ya_cs A i)), .int (ya_par A x i), .int (nI i)] σ' = some (.inl (ya_X3_upward A x (ya_ag A 20 (-1) (nI i))), σ') := by
        refine (ee_M (ee_aR (ee_R rfl) (ee_aI (ee_L rfl) (ee_aI (em_67 Mi Ii (ee_rF (ee_R rfl) rfl) (ee_L rfl) hlst) ee_aN))) (ee_cv (ym_among Mi Ii _ _ (Or.inr hxl)) rfl)).trans ?_
        rw [hupw]
      -- the end of a turn, with the memory and the slot that it has then
      have hend : ∀ (σ2 B : sy_Mem) (n : Nat) (k : List Value → sy_MM (Option Value)), yr_M B σ2 → yn_I t B → B 19 = A 19 → B 21 = A 21 → (sy_sSI 7 (sy_iQ (sy_cI (sy_iM (sy_cv 6 2 sf_X6_hasCode) (sy_aR (sy_rL 0) (sy_aI (sy_iL 8) (sy_aI (sy_iK 16) sy_aN))))) (sy_iL 9) (sy_iL 7))) [.ref 44, .int (nI v), .int x, .int how, .int (ya_b h), .int (ya_status A v how x), .int (nI n), .int (ya_par A x i), .int (nI i), .int (ya_X3_upward A x (ya_ag A 20 (-1) (nI i)))] (fun env' => sy_sIn 8 1 (env'.take 9) k) σ2 = k [.ref 44, .int (nI v), .int x, .int how, .int (ya_b h), .int (ya_status A v how x), .int (nI n), .int (ya_par A x (i + 1)), .int (nI (i + 1))] σ2 := fun σ2 B n k MB IB e1 e2 => by
        refine es_SI (ee_iQ (ee_cb (ee_M (ee_aR (ee_R rfl) (ee_aI (ee_L rfl) (ee_aI ee_K ee_aN))) (ee_cv (ym_hasCode MB IB (j := i) (by rw [e1]; omega) 16) rfl))) (fun _ => ee_L rfl) (fun _ => ee_L rfl)) (es_In1 rfl ?_)
        rw [ya_code_c e1 e2]
        rfl
      by_cases hP : (ya_code A (nI i) 1 || decide (i + 1 = (A 19 0).toNatClampNeg)) = true
      · -- delivered
        have hfill := ym_fills (A := ya_cm A v x h i) (τ := σ') Mi.2.1.2.2.1 hv (n := ya_cs A i) (by rw [ecs]; omega) (ya_X3_upward A x (ya_ag A 20 (-1) (nI i))) h (ya_code A (nI i) 32) (by rw [yl_c (hk (by decide) (by decide))]; exact hup i hi)
        have hh6 : h = true → ya_cm A v x h i (sy_vw v) 6 = nI (ya_cs A i) := fun e => by rw [ecm, ecs, ya_dl_6 A hv h6, e]; rfl
        have hone := yr_one Mi Ii (v := v) (n := ya_cs A i) (h := h) hv hh6 (by rw [ecs]; omega) (x := ya_X3_upward A x (ya_ag A 20 (-1) (nI i))) (q := ya_code A (nI i) 32)
        have hnx : ya_one (ya_cm A v x h i) v (ya_cs A i) (ya_X3_upward A x (ya_ag A 20 (-1) (nI i))) h (ya_code A (nI i) 32) = ya_cm A v x h (i + 1) ∧ ya_cs A i + 1 = ya_cs A (i + 1) := by
          rw [ecm, ecs]
          by_cases hl : i + 1 = (A 19 0).toNatClampNeg
          · have e2 : ya_cm A v x h (i + 1) = ya_deliver A v x h := by unfold ya_cm; rw [if_neg (by omega)]
            have e3 : ya_cs A (i + 1) = ya_sl A ((A 19 0).toNatClampNeg - 1) + 1 := by unfold ya_cs; rw [if_neg (by omega)]
            rw [e2, e3]
            unfold ya_deliver
            rw [show (A 19 0).toNatClampNeg - 1 = i by omega, (yg_ups I hL hx hR hi).2.2 hl, show A 19 0 - 1 = nI i by rw [e19, ← hl, nI_pred]]
            exact ⟨rfl, rfl⟩
          · have hPi : ya_code A (nI i) 1 = true := by
              rw [decide_eq_false hl, Bool.or_false] at hP
              exact hP
            have e2 : ya_cm A v x h (i + 1) = ya_dl A v x h (i + 1) := by unfold ya_cm; rw [if_pos (by omega)]
            have e3 : ya_cs A (i + 1) = ya_sl A (i + 1) := by unfold ya_cs; rw [if_pos (Or.inl (by omega))]
            rw [e2, e3, show ya_sl A (i + 1) = ya_sl A i + (if ya_code A (nI i) 1 then 1 else 0) from rfl, hPi]
            refine ⟨?_, rfl⟩
            rw [show ya_dl A v x h (i + 1) = if ya_code A (nI i) 1 then ya_one (ya_dl A v x h i) v (ya_sl A i) (ya_X3_upward A x (ya_ag A 20 (-1) (nI i))) h (ya_code A (nI i) 32) else ya_dl A v x h i from rfl, hPi, if_pos rfl]
        rw [hnx.1] at hone
        obtain ⟨I1, hk1⟩ := hcm (i + 1) (by omega)
        refine ⟨_, _, ⟨rfl, fun _ => hone, fun e => absurd e (by omega), ym_fr_trans Fi ym_one_fr⟩, fun k => ?_⟩
        refine es_Q (es_B (es_Q (es_SI hits (es_Q (es_It (hPe.trans (by rw [hP])) (es_Q (es_C (ee_aR (ee_R rfl) (ee_aI (ee_L rfl) (ee_aI (ee_L rfl) (ee_aI (ee_L rfl) (ee_aI (ee_L rfl) (ee_aI ((ee_iQ (ee_cb (ee_M (ee_aR (ee_R rfl) (ee_aI (ee_L rfl) (ee_aI ee_K ee_aN))) (ee_cv (ym_hasCode Mi Ii (j := i) hlst 32) rfl))) (fun _ => ee_K) (fun _ => ee_K)).trans (by rw [hcode])) ee_aN)))))) (ee_cv hfill rfl) (es_In1 rfl ?_))))))))
        rw [hnx.2]
        exact hend _ (ya_cm A v x h (i + 1)) (ya_cs A (i + 1)) k hone I1 (hk1 (by decide) (by decide)) (hk1 (by decide) (by decide))
      · -- passed over
        have hP' : (ya_code A (nI i) 1 || decide (i + 1 = (A 19 0).toNatClampNeg)) = false := by simpa using hP
        rw [Bool.or_eq_false_iff] at hP'
        have hl : ¬ i + 1 = (A 19 0).toNatClampNeg := of_decide_eq_false hP'.2
        have e2 : ya_cm A v x h (i + 1) = ya_cm A v x h i := by
          rw [ecm]
          unfold ya_cm
          rw [if_pos (by omega), show ya_dl A v x h (i + 1) = if ya_code A (nI i) 1 then ya_one (ya_dl A v x h i) v (ya_sl A i) (ya_X3_upward A x (ya_ag A 20 (-1) (nI i))) h (ya_code A (nI i) 32) else ya_dl A v x h i from rfl, hP'.1, if_neg (by decide)]
        have e3 : ya_cs A (i + 1) = ya_cs A i := by
          rw [ecs]
          unfold ya_cs
          rw [if_pos (Or.inl (by omega)), show ya_sl A (i + 1) = ya_sl A i + (if ya_code A (nI i) 1 then 1 else 0) from rfl, hP'.1, if_neg (by decide)]
          rfl
        refine ⟨_, _, ⟨rfl, fun _ => by rw [e2]; exact Mi, fun e => absurd e (by omega), Fi⟩, fun k => ?_⟩
        refine es_Q (es_B (es_Q (es_SI hits (es_Q (es_If (hPe.trans (by rw [hP'.1, hP'.2]; rfl)) (es_N ?_))))))
        rw [e3]
        exact hend _ (ya_cm A v x h i) (ya_cs A i) k Mi Ii e19' (hk (by decide) (by decide)))
    (fun env σ' hI => by
      obtain ⟨rfl, Mi, hz, Fi⟩ := hI
      by_cases q : (A 19 0).toNatClampNeg = 0
      · have := hz q
        subst this
        exact (es_cB rfl (em_F24 M (ee_R rfl)) (by omega)).trans (by rw [decide_eq_false (by omega)])
      · have Mi := Mi (by omega)
        obtain ⟨Ii, hk⟩ := hcm (A 19 0).toNatClampNeg (by omega)
        have e19' : ya_cm A v x h (A 19 0).toNatClampNeg 19 = A 19 := hk (by decide) (by decide)
        refine (es_cB rfl (em_F24 Mi (ee_R rfl)) (by omega)).trans ?_
        rw [e19', decide_eq_false (by omega)])
    (fun env' => (sy_sQ (sy_sI (sy_ceq (sy_iF 6 24 (sy_rL 0)) (sy_iK 0)) (sy_sC (sy_cv 6 5 sf_X6_fills) (sy_aR (sy_rL 0) (sy_aI (sy_iL 1) (sy_aI (sy_iK 0) (sy_aI (sy_iL 2) (sy_aI (sy_iL 4) (sy_aI (sy_iK 0) sy_aN))))))) sy_sN) (sy_sQ (sy_sW (sy_rF 6 19 (sy_rL 0)) (sy_iL 1) (sy_iQ (sy_ceq (sy_iL 3) (sy_iK 2)) (sy_iA 0 (sy_rF 6 19 (sy_rL 0)) (sy_iL 1)) (sy_iL 7))) (sy_sQ (sy_sW (sy_rF 6 17 (sy_rL 0)) (sy_iL 1) (sy_iK 0)) (sy_sQ (sy_sW (sy_rF 6 18 (sy_rL 0)) (sy_iL 1) (sy_iL 2)) (sy_eI (sy_iL 5)))))) (env'.take 8) (fun _ => sy_fail))
    (A 19 0).toNatClampNeg 0 1000 [.ref 44, .int (nI v), .int x, .int how, .int (ya_b h), .int (ya_status A v how x), .int (nI (ya_cs A 0)), .int (ya_par A x 0), .int (nI 0)] τ (by omega) (by omega) ⟨rfl, fun q => by unfold ya_cm; rw [if_pos q]; exact M, fun _ => rfl, ym_fr_refl⟩
  -- what the delivering comes to
  have ID := yn_deliver I hv (x := x) (h := h) h6 hx hup
  obtain ⟨τ3, M3, F3, hfin⟩ : ∃ τ3, yr_M (ya_deliver A v x h) τ3 ∧ ym_fr τ τ3 ∧ ∀ k : List Value → sy_MM (Option Value), (sy_sI (sy_ceq (sy_iF 6 24 (sy_rL 0)) (sy_iK 0)) (sy_sC (sy_cv 6 5 sf_X6_fills) (sy_aR (sy_rL 0) (sy_aI (sy_iL 1) (sy_aI (sy_iK 0) (sy_aI (sy_iL 2) (sy_aI (sy_iL 4) (sy_aI (sy_iK 0) sy_aN))))))) sy_sN) [.ref 44, .int (nI v), .int x, .int how, .int (ya_b h), .int (ya_status A v how x), .int (nI (ya_cs A (A 19 0).toNatClampNeg)), .int (ya_par A x (A 19 0).toNatClampNeg)] k τ2 = k [.ref 44, .int (nI v), .int x, .int how, .int (ya_b h), .int (ya_status A v how x), .int (nI (ya_cs A (A 19 0).toNatClampNeg)), .int (ya_par A x (A 19 0).toNatClampNeg)] τ3 := by
    by_cases q : (A 19 0).toNatClampNeg = 0
    · have := hz q
      subst this
      have e0 : A 19 0 = 0 := by rw [e19, q, nI_0]
      have ed : ya_deliver A v x h = ya_one A v 0 x h false := by
        unfold ya_deliver
        rw [e0]
        rfl
      refine ⟨ym_one τ2 A v 0 x h false, by rw [ed]; exact yr_one M I hv (fun e => by rw [h6, nI_0]) (by decide), ym_one_fr, fun k => ?_⟩
      have hf := ym_fills (A := A) (τ := τ2) M.2.1.2.2.1 hv (n := 0) (by decide) x h false hx
      exact es_It ((ee_cB (em_F24 M (ee_R rfl)) ee_K).trans (by rw [decide_eq_true e0])) (es_C (ee_aR (ee_R rfl) (ee_aI (ee_L rfl) (ee_aI ee_K0 (ee_aI (ee_L rfl) (ee_aI (ee_L rfl) (ee_aI (x := ya_b false) ee_K ee_aN)))))) (ee_cv hf rfl) rfl)
    · have M2 := M2 (by omega)
      have ed : ya_cm A v x h (A 19 0).toNatClampNeg = ya_deliver A v x h := by unfold ya_cm; rw [if_neg (by omega)]
      rw [ed] at M2
      have e19' : ya_deliver A v x h 19 = A 19 := ya_deliver_ne A (by decide) (by omega) (by omega) (by omega)
      refine ⟨τ2, M2, F2, fun k => es_If ((ee_cB (em_F24 M2 (ee_R rfl)) ee_K).trans (by rw [e19', decide_eq_false (fun e => q (by rw [e]; rfl))])) rfl⟩
  have e5 : ya_deliver A v x h (sy_vw v) 5 = A (sy_vw v) 5 := by
    unfold ya_deliver
    rw [ya_one_vw _ hv (by decide), ya_dl_vw A hv (by decide)]
  have hr : sy_iQ (sy_ceq (sy_iL 3) (sy_iK 2)) (sy_iA 0 (sy_rF 6 19 (sy_rL 0)) (sy_iL 1)) (sy_iL 7) [.ref 44, .int (nI v), .int x, .int how, .int (ya_b h), .int (ya_status A v how x), .int (nI (ya_cs A (A 19 0).toNatClampNeg)), .int (ya_par A x (A 19 0).toNatClampNeg)] τ3 = some (.inl (if decide (how = 2) then ya_deliver A v x h (sy_vw v) 5 else ya_par A x (A 19 0).toNatClampNeg), τ3) :=
    ee_iQ (ee_cB (ee_L rfl) ee_K) (fun _ => em_63 M3 hv (ee_rF (ee_R rfl) rfl) (ee_L rfl)) (fun _ => ee_L rfl)
  have M4 : yr_M (if !decide (how = 2) then sy_up (ya_deliver A v x h) (sy_vw v) 5 (ya_par A x (A 19 0).toNatClampNeg) else ya_deliver A v x h) (sy_up τ3 63 v (if decide (how = 2) then ya_deliver A v x h (sy_vw v) 5 else ya_par A x (A 19 0).toNatClampNeg)) := by
    cases decide (how = 2)
    · exact yr_setpar M3 ID hv _
    · have := yr_setpar M3 ID hv (ya_deliver A v x h (sy_vw v) 5)
      rw [yu_same] at this
      exact this
  have hparI : ∀ n, n ≤ (A 19 0).toNatClampNeg → (yl A (ya_par A x n) ∧ sD A (ya_par A x n) = A (sy_vw v) 0) := by
    intro n
    induction n with
    | zero => exact fun _ => ⟨hx, hxD⟩
    | succ n ih =>
      intro hn
      rw [show ya_par A x (n + 1) = if ya_code A (nI n) 16 then ya_X3_upward A x (ya_ag A 20 (-1) (nI n)) else ya_par A x n from rfl]
      by_cases hc : ya_code A (nI n) 16 = true
      · rw [if_pos hc]
        exact ⟨hup n (by omega), (yg_ups I hL hx hR (show n < _ by omega)).2.1⟩
      · rw [if_neg hc]
        exact ih (by omega)
  have hDk : ∀ {k : Nat}, k ≠ 31 → k ≤ 31 → ya_deliver A v x h k = A k := fun h1 h2 => ya_deliver_ne A h1 (by omega) (by omega) (by omega)
  have hD0 : ya_deliver A v x h (sy_vw v) 0 = A (sy_vw v) 0 := by
    unfold ya_deliver
    rw [ya_one_vw _ hv (by decide), ya_dl_vw A hv (by decide)]
  have I4 : yn_I t (if !decide (how = 2) then sy_up (ya_deliver A v x h) (sy_vw v) 5 (ya_par A x (A 19 0).toNatClampNeg) else ya_deliver A v x h) := by
    cases decide (how = 2)
    · have hp := hparI _ (Nat.le_refl _)
      refine yn_setpar ID hv (Or.inr ⟨?_, ?_⟩)
      · rw [yl_c (hDk (by decide) (by decide))]
        exact hp.1
      · rw [hD0, show sD (ya_deliver A v x h) (ya_par A x (A 19 0).toNatClampNeg) = sD A (ya_par A x (A 19 0).toNatClampNeg) from sD_c (hDk (by decide) (by decide)) (hDk (by decide) (by decide)) (hDk (by decide) (by decide)) _]
        exact hp.2
    · exact ID
  have M5 := yr_stand M4 I4 hv x 1 0 0 (by
    unfold ya_mode
    rw [show ∀ B : sy_Mem, ya_stand B v x 1 0 (sy_vw v) 3 = 1 from fun B => ya_stand_at]
    rfl)
  refine ⟨_, ?_, M5, ym_fr_trans F3 (ym_fr_trans (ym_fr_up ⟨by decide, by decide⟩) (ym_fr_trans (ym_fr_up ⟨by decide, by decide⟩) (ym_fr_up ⟨by decide, by decide⟩)))⟩
  refine ee_meth ?_ rfl
  unfold sm_X6_comesTo
  refine es_Q (es_SI ee_K (es_Q ((hst _).trans ?_)))
  refine es_Q (es_SI ee_K0 (es_Q (es_SI (ee_L rfl) (es_Q (es_B (es_Q (es_SI ee_K0 ?_)))))))
  have ecs0 : ya_cs A 0 = 0 := by unfold ya_cs; rw [if_pos (Or.inr rfl)]; rfl
  rw [ecs0] at hw
  refine hw.trans ?_
  refine es_Q ((hfin _).trans ?_)
  refine es_Q (es_W (ee_rF (ee_R rfl) rfl) (ee_L rfl) hr (yi_inbN (n := 4) hv (by omega)) ?_)
  refine es_Q (es_W (ee_rF (ee_R rfl) rfl) (ee_L rfl) ee_K (yi_inbN (n := 4) hv (by omega)) ?_)
  refine es_Q (es_W (ee_rF (ee_R rfl) rfl) (ee_L rfl) (ee_L rfl) (yi_inbN (n := 4) hv (by omega)) ?_)
  rw [nI_clamp (by omega)]
  exact es_eI (ee_L rfl)
/-- the component's memory behind get keeps all -/
theorem yn_got (I : yn_I t A) {v : Nat} (hv : v < 4) (x how : Int32) (h : Bool) (h6 : A (sy_vw v) 6 = 0) (hL : ya_X5_isListOrdered A v = true) (hx : yl A x) (hxD : sD A x = A (sy_vw v) 0) (hR : ya_X5_isRight A v x (A 19 0).toNatClampNeg = true) : yn_I t (ya_got A v how h x) := by
  have hb := yv_lt hv
  have h19 := yg_n19 I
  have hup : ∀ i, i < (A 19 0).toNatClampNeg → yl A (ya_X3_upward A x (ya_ag A 20 (-1) (nI i))) := fun i hi => (yg_ups I hL hx hR hi).1
  have ID := yn_deliver I hv (x := x) (h := h) h6 hx hup
  have hparI : ∀ n, n ≤ (A 19 0).toNatClampNeg → (yl A (ya_par A x n) ∧ sD A (ya_par A x n) = A (sy_vw v) 0) := by
    intro n
    induction n with
    | zero => exact fun _ => ⟨hx, hxD⟩
    | succ n ih =>
      intro hn
      rw [show ya_par A x (n + 1) = if ya_code A (nI n) 16 then ya_X3_upward A x (ya_ag A 20 (-1) (nI n)) else ya_par A x n from rfl]
      by_cases hc : ya_code A (nI n) 16 = true
      · rw [if_pos hc]
        exact ⟨hup n (by omega), (yg_ups I hL hx hR (show n < _ by omega)).2.1⟩
      · rw [if_neg hc]
        exact ih (by omega)
  have hDk : ∀ {k : Nat}, k ≠ 31 → k ≤ 31 → ya_deliver A v x h k = A k := fun h1 h2 => ya_deliver_ne A h1 (by omega) (by omega) (by omega)
  have hD0 : ya_deliver A v x h (sy_vw v) 0 = A (sy_vw v) 0 := by
    unfold ya_deliver
    rw [ya_one_vw _ hv (by decide), ya_dl_vw A hv (by decide)]
  have e2 : ∀ s, sD (ya_deliver A v x h) s = sD A s := fun s => sD_c (hDk (by decide) (by decide)) (hDk (by decide) (by decide)) (hDk (by decide) (by decide)) s
  have e1 : ∀ s, yl (ya_deliver A v x h) s = yl A s := fun s => yl_c (hDk (by decide) (by decide)) s
  unfold ya_got
  cases decide (how = 2)
  · have hp := hparI _ (Nat.le_refl _)
    have hk : ∀ k, k ≠ sy_vw v → sy_up (ya_deliver A v x h) (sy_vw v) 5 (ya_par A x (A 19 0).toNatClampNeg) k = ya_deliver A v x h k := fun k h => yu_ne h
    have I4 : yn_I t (sy_up (ya_deliver A v x h) (sy_vw v) 5 (ya_par A x (A 19 0).toNatClampNeg)) := yn_setpar ID hv (Or.inr ⟨by rw [e1]; exact hp.1, by rw [hD0, e2]; exact hp.2⟩)
    refine yn_stand I4 hv (Or.inr ⟨?_, ?_⟩) (Or.inr ⟨rfl, yl_ne hx⟩) (Or.inl rfl)
    · rw [yl_c (hk 11 (by omega)), e1]; exact hx
    · rw [show sD (sy_up (ya_deliver A v x h) (sy_vw v) 5 (ya_par A x (A 19 0).toNatClampNeg)) x = sD (ya_deliver A v x h) x from sD_c (hk 1 (by omega)) (hk 2 (by omega)) (hk 11 (by omega)) x, e2, yu_an (by decide), hD0]
      exact hxD
  · refine yn_stand ID hv (Or.inr ⟨by rw [e1]; exact hx, by rw [e2, hD0]; exact hxD⟩) (Or.inr ⟨rfl, yl_ne hx⟩) (Or.inl rfl)
end YG7
