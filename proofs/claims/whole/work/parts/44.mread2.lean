section YQ2
variable {A σ : sy_Mem} {t : Nat}
theorem ym_isList (M : yr_M A σ) (I : yn_I t A) {v : Nat} (hv : v < 4) : sf_X6_isList [.ref 44, .int (nI v)] σ = some (.inl (some (.int (ya_b (ya_X5_isListOrdered A v)))), σ) := by
  have e0 : (ya_b ((ya_ff (fun i => !((ya_X4_sees A v (ya_ag A 20 (-1) (nI i))) && ((decide ((nI i) = 0)) || (ya_X2_isBelow A (ya_ag A 20 (-1) (nI i)) (ya_ag A 20 (-1) ((nI i) - 1)))))) ((A 19 0).toNatClampNeg) 0).isNone)) = (ya_b (ya_X5_isListOrdered A v)) := by
    have h19 := yg_n19 I
    unfold ya_X5_isListOrdered
    rw [yg_iteN, yg_isNone]
    congr 3
    refine ya_ff_congr (fun i _ hi => ?_)
    rw [show decide (0 < nI i) = !decide (nI i = 0) from by
      by_cases e : nI i = 0
      · rw [e]; rfl
      · rw [decide_eq_false e, decide_eq_true_eq.mpr]
        · rfl
        · rw [Int32.lt_iff_toInt_lt, nI_toInt (by omega), yl_c0]
          have : i ≠ 0 := fun q => e (by rw [q, nI_0])
          omega]
    cases ya_X4_sees A v (ya_ag A 20 (-1) (nI i)) <;> cases decide (nI i = 0) <;> cases ya_X2_isBelow A (ya_ag A 20 (-1) (nI i)) (ya_ag A 20 (-1) (nI i - 1)) <;> rfl
  rw [← e0]
  refine ee_meth ?_ rfl
  unfold sm_X6_isList
  refine (es_Q (es_SI (x := ya_b true) ee_K (es_Q (es_B (es_Q (es_SI ee_K0 (es_forAnd0 (E := (fun (i : Nat) (b : Bool) => ([.ref 44, .int (nI v), .int (ya_b b), .int (nI i)] : List Value))) (P := fun i => ((ya_X4_sees A v (ya_ag A 20 (-1) (nI i))) && ((decide ((nI i) = 0)) || (ya_X2_isBelow A (ya_ag A 20 (-1) (nI i)) (ya_ag A 20 (-1) ((nI i) - 1)))))) (N := (A 19 0).toNatClampNeg) (b := true) (by have := yg_n19 I; omega) (fun i b hi => (es_cB rfl (em_F24 M (ee_R rfl)) (by have := yg_n19 I; omega)).trans (by rw [decide_eq_true hi])) (fun b => (es_cB rfl (em_F24 M (ee_R rfl)) (by have := yg_n19 I; omega)).trans (by rw [decide_eq_false (by omega)])) (fun i b hi k' => (es_Q (es_SI (ee_iC (ee_cA (ee_cA (ee_cb (ee_L rfl)) (fun h2 => (ee_cb (ee_M (ee_aR (ee_R rfl) (ee_aI (ee_L rfl) (ee_aI (em_67 M I (ee_rF (ee_R rfl) rfl) (ee_L rfl) ?_) ee_aN))) (ee_cv (ym_sees M I hv (ya_ag A 20 (-1) (nI i)) ?_) rfl))))) (fun h1 => (ee_cO (ee_cB (ee_L rfl) ee_K) (fun h3 => (ee_cb (ee_M (ee_aR (ee_R rfl) (ee_aI (em_67 M I (ee_rF (ee_R rfl) rfl) (ee_L rfl) ?_) (ee_aI (em_67x M I (ee_rF (ee_R rfl) rfl) (ee_B (ee_L rfl) ee_K) ?_) ee_aN))) (ee_cv (ym_isBelow M I (ya_ag A 20 (-1) (nI i)) (ya_ag A 20 (-1) ((nI i) - 1)) ?_ ?_) rfl)))))))) (es_In1 rfl rfl))).trans (congrArg (fun z => k' ((fun (i : Nat) (b : Bool) => ([.ref 44, .int (nI v), .int (ya_b b), .int (nI i)] : List Value)) (i + 1) z) σ) (show ((b && (ya_X4_sees A v (ya_ag A 20 (-1) (nI i)))) && ((decide ((nI i) = 0)) || (ya_X2_isBelow A (ya_ag A 20 (-1) (nI i)) (ya_ag A 20 (-1) ((nI i) - 1))))) = (b && ((ya_X4_sees A v (ya_ag A 20 (-1) (nI i))) && ((decide ((nI i) = 0)) || (ya_X2_isBelow A (ya_ag A 20 (-1) (nI i)) (ya_ag A 20 (-1) ((nI i) - 1)))))) from by cases b <;> rfl))) (es_eZb (ee_L rfl)))))))))
  all_goals (have h19 := yg_n19 I)
  · omega
  · exact yg_arg I (by omega)
  · omega
  · exact (yg_pred I (of_decide_eq_false h3) (by omega)).2
  · exact yg_arg I (by omega)
  · exact ya_isT_ne (yg_argx I (yg_pred I (of_decide_eq_false h3) (by omega)).2)
theorem ym_from (M : yr_M A σ) (I : yn_I t A) {v : Nat} (hv : v < 4) : sf_X6_from [.ref 44, .int (nI v)] σ = some (.inl (some (.int (ya_X5_placeBehind A v))), σ) := by
  have e0 : (if (decide ((ya_mode A v) = 0)) then ((ya_sg A 17 (A (sy_vw v) 2)) + 1) else (if (decide ((ya_mode A v) = 1)) then (ya_sg A 17 (A (sy_vw v) 2)) else (if (decide ((ya_mode A v) = 2)) then 0 else (ya_cnt A (A (sy_vw v) 0))))) = (ya_X5_placeBehind A v) := by
    rw [yg_from I hv]
    cases hq : decide (ya_mode A v = 0) with
    | true => rw [if_pos rfl, if_pos (of_decide_eq_true hq)]
    | false =>
      rw [if_neg (by decide), if_neg (of_decide_eq_false hq)]
      cases hq1 : decide (ya_mode A v = 1) with
      | true => rw [if_pos rfl, if_pos (of_decide_eq_true hq1)]
      | false =>
        rw [if_neg (by decide), if_neg (of_decide_eq_false hq1)]
        cases hq2 : decide (ya_mode A v = 2) with
        | true => rw [if_pos rfl, if_pos (of_decide_eq_true hq2)]
        | false => rw [if_neg (by decide), if_neg (of_decide_eq_false hq2)]
  rw [← e0]
  refine ee_meth ?_ rfl
  unfold sm_X6_from
  refine (es_eI (ee_iQ (ee_cB (em_61 M hv (ee_rF (ee_R rfl) rfl) (ee_L rfl)) ee_K) (fun h1 => (ee_B (ee_M (ee_aR (ee_R rfl) (ee_aI (em_62 M hv (ee_rF (ee_R rfl) rfl) (ee_L rfl)) ee_aN)) (ee_cv (ym_placeOf M I (A (sy_vw v) 2) ?_) rfl)) ee_K)) (fun h1 => (ee_iQ (ee_cB (em_61 M hv (ee_rF (ee_R rfl) rfl) (ee_L rfl)) ee_K) (fun h2 => (ee_M (ee_aR (ee_R rfl) (ee_aI (em_62 M hv (ee_rF (ee_R rfl) rfl) (ee_L rfl)) ee_aN)) (ee_cv (ym_placeOf M I (A (sy_vw v) 2) ?_) rfl))) (fun h2 => (ee_iQ (ee_cB (em_61 M hv (ee_rF (ee_R rfl) rfl) (ee_L rfl)) ee_K) (fun h3 => ee_K) (fun h3 => (em_57 M (ee_rF (ee_R rfl) rfl) (em_59 M hv (ee_rF (ee_R rfl) rfl) (ee_L rfl)) ?_))))))))
  all_goals first | with_reducible assumption | exact yl_in (by with_reducible assumption) | exact (I.2.1.1 _ (by with_reducible assumption)).1 | exact yg_60 (by omega) | exact yg_arg I (by omega) | exact yg_tw1 (by with_reducible assumption) | exact yg_tw2 (by with_reducible assumption) | exact yg_tw3 (by with_reducible assumption) | exact yl_in (yg_tw1 (by with_reducible assumption)) | exact yl_in (yg_tw2 (by with_reducible assumption)) | omega | exact yg_mode0 I hv (by with_reducible assumption) | exact yg_mode1 I hv (by with_reducible assumption) | exact (I.2.2.2.2.2.1 v hv).1

/-- the first right segment that a call of get comes to -/
def ya_within (A : sy_Mem) (v : Nat) (way : Int32) : Int32 := if way = 2 then A (sy_vw v) 5 else -1
def ya_start (A : sy_Mem) (v : Nat) (way : Int32) : Int32 := if way = 0 then 0 else ya_X5_placeBehind A v
def ya_finds (A : sy_Mem) (v : Nat) (way : Int32) : Int32 := ya_X5_firstRight A v (A 19 0).toNatClampNeg (ya_start A v way).toNatClampNeg (ya_within A v way)
theorem yg_start (I : yn_I t A) {v : Nat} (hv : v < 4) (way : Int32) : 0 ≤ (ya_start A v way).toInt ∧ (ya_start A v way).toInt ≤ 61 := by
  unfold ya_start
  by_cases h0 : way = 0
  · rw [if_pos h0]
    exact ⟨by decide, by decide⟩
  · rw [if_neg h0, yg_from I hv]
    have hd := (I.2.2.2.2.2.1 v hv).1
    have hc := I.2.2.1.1 (A (sy_vw v) 0).toNatClampNeg (by rw [yi_clampInt]; omega)
    rcases yg_modes I hv with ⟨_, _, h2, _, hm, _⟩ | ⟨_, _, h2, _, hm, _⟩ | ⟨_, _, _, hm, _⟩ | ⟨_, _, _, hm, _⟩
    · rw [hm, if_pos rfl]
      have := yg_pl I h2
      rw [yl_add (by omega) (by omega) (by decide) (by decide), yl_c1]
      omega
    · rw [hm, if_neg (by decide), if_pos rfl]
      have := yg_pl I h2
      omega
    · rw [hm, if_neg (by decide), if_neg (by decide), if_neg (by decide), ya_cnt_in hd]
      omega
    · rw [hm, if_neg (by decide), if_neg (by decide), if_pos rfl]
      exact ⟨by decide, by decide⟩
theorem yg_n19e (I : yn_I t A) : A 19 0 = nI (A 19 0).toNatClampNeg := yi_nat (yi_pos.mpr I.2.2.2.2.2.2.1.1)
/-- a place of the row -/
theorem yg_at (I : yn_I t A) {d p : Int32} (hd : 0 ≤ d.toInt ∧ d.toInt < 3) (hp : 0 ≤ p.toInt ∧ p.toInt < (ya_cnt A d).toInt) : yl A (ya_at A d p) ∧ sD A (ya_at A d p) = d ∧ yL A (ya_at A d p) = p := I.2.2.1.2.2.2 d p hd.1 hd.2 hp.1 hp.2
theorem yg_cnt (I : yn_I t A) {d : Int32} (hd : 0 ≤ d.toInt ∧ d.toInt < 3) : 0 ≤ (ya_cnt A d).toInt ∧ (ya_cnt A d).toInt ≤ 60 := by
  rw [ya_cnt_in hd]
  exact I.2.2.1.1 _ (by rw [yi_clampInt]; omega)
theorem yg_pn (I : yn_I t A) {d : Int32} (hd : 0 ≤ d.toInt ∧ d.toInt < 3) {i : Nat} (hi : i < (ya_cnt A d).toNatClampNeg) : 0 ≤ (nI i).toInt ∧ (nI i).toInt < (ya_cnt A d).toInt := by
  have := yg_cnt I hd
  rw [yi_clampInt] at hi
  rw [nI_toInt (by omega)]
  omega
theorem ym_finds (M : yr_M A σ) (I : yn_I t A) {v : Nat} (hv : v < 4) (way : Int32) (hL : ya_X5_isListOrdered A v = true) (hw : way = 2 → A (sy_vw v) 5 ≠ -1) : sf_X6_finds [.ref 44, .int (nI v), .int way] σ = some (.inl (some (.int (ya_finds A v way))), σ) := by
  have hd := (I.2.2.2.2.2.1 v hv).1
  have hs := yg_start I hv way
  have h19 := yg_n19 I
  have hcn := yg_cnt I hd
  refine ee_meth ?_ rfl
  unfold sm_X6_finds
  have e0 : ya_finds A v way = (ya_ff (fun i => (!decide (way = 2) || (!decide (ya_at A (A (sy_vw v) 0) (nI i) = A (sy_vw v) 5) && ya_under A (ya_at A (A (sy_vw v) 0) (nI i)) (A (sy_vw v) 5))) && ya_X5_isRight A v (ya_at A (A (sy_vw v) 0) (nI i)) (A 19 0).toNatClampNeg) ((ya_cnt A (A (sy_vw v) 0)).toNatClampNeg - (ya_start A v way).toNatClampNeg) (ya_start A v way).toNatClampNeg).elim (-1) (fun i => ya_at A (A (sy_vw v) 0) (nI i)) := by
    unfold ya_finds ya_X5_firstRight
    congr 1
    refine ya_ff_congr (fun i h1 h2 => ?_)
    congr 1
    have hl := (yg_at I hd (yg_pn I hd (by omega : i < _))).1
    unfold ya_within ya_under
    by_cases h3 : way = 2
    · rw [if_pos h3, decide_eq_false (hw h3), decide_eq_true h3]
      by_cases h4 : ya_at A (A (sy_vw v) 0) (nI i) = A (sy_vw v) 5
      · rw [decide_eq_true h4, ← h4, yg_noself I hl]
        rfl
      · rw [decide_eq_false h4]
        rfl
    · rw [if_neg h3, decide_eq_false h3]
      rfl
  rw [e0]
  refine es_Q (es_SI (em_59 M hv (ee_rF (ee_R rfl) rfl) (ee_L rfl)) (es_Q (es_B (es_Q (es_SI (x := nI (ya_start A v way).toNatClampNeg) ?_ (es_forPL (E := fun i => [.ref 44, .int (nI v), .int way, .int (A (sy_vw v) 0), .int (nI i)]) (j := 4) (a := (ya_start A v way).toNatClampNeg) (B := ya_cnt A (A (sy_vw v) 0)) (R := fun i => ya_at A (A (sy_vw v) 0) (nI i)) (fun _ => rfl) (fun i => em_57 M (ee_rF (ee_R rfl) rfl) (ee_L rfl) hd) (by rw [yi_clampInt]; omega) (by rw [yi_clampInt]; omega) (fun i g1 g2 k' => ?_) (fun _ => es_eI ee_K)))))))
  · rw [← yi_nat (yi_pos.mpr hs.1)]
    unfold ya_start
    refine (ee_iQ (ee_cB (ee_L rfl) ee_K) (fun _ => ee_K) (fun _ => ee_M (ee_aR (ee_R rfl) (ee_aI (ee_L rfl) ee_aN)) (ee_cv (ym_from M I hv) rfl))).trans ?_
    by_cases h0 : way = 0
    · rw [decide_eq_true h0, if_pos h0, if_pos rfl]
    · rw [decide_eq_false h0, if_neg h0, if_neg (by decide)]
  · have hp := yg_pn I hd g2
    have hl := (yg_at I hd hp).1
    have hsg : ∀ {env : List Value}, env[0]? = some (.ref 44) → env[3]? = some (.int (A (sy_vw v) 0)) → env[4]? = some (.int (nI i)) → sy_iM (sy_cv 6 2 sf_X6_segmentAt) (sy_aR (sy_rL 0) (sy_aI (sy_iL 3) (sy_aI (sy_iL 4) sy_aN))) env σ = some (.inl (ya_at A (A (sy_vw v) 0) (nI i)), σ) := fun h0 h3 h4 => ee_M (ee_aR (ee_R h0) (ee_aI (ee_L h3) (ee_aI (ee_L h4) ee_aN))) (ee_cv (ym_segmentAt M I _ _ hd hp) rfl)
    refine es_Q (es_B (es_Q (es_SI (ee_iC (ee_cO (ee_cB (ee_L rfl) ee_K) (fun h1 => ee_cA (ee_cB (hsg rfl rfl rfl) (em_63 M hv (ee_rF (ee_R rfl) rfl) (ee_L rfl))) (fun _ => ee_cb (ee_M (ee_aR (ee_R rfl) (ee_aI (hsg rfl rfl rfl) (ee_aI (em_63 M hv (ee_rF (ee_R rfl) rfl) (ee_L rfl)) ee_aN))) (ee_cv (ym_isUnder M I _ _ hl (hw (by simpa using h1))) rfl))))))
      (es_I (ee_cA (ee_cb (ee_L rfl)) (fun _ => ee_cb (ee_M (ee_aR (ee_R rfl) (ee_aI (ee_L rfl) (ee_aI (hsg rfl rfl rfl) (ee_aI ((em_F24 M (ee_R rfl)).trans (by rw [← yg_n19e I])) ee_aN)))) (ee_cv (ym_isRight M I hv _ _ hl (by omega) hL) rfl)))) (fun _ => es_eI (hsg rfl rfl rfl)) (fun _ => es_N (es_In1 rfl rfl))))))

theorem yg_nt (I : yn_I t A) {i : Nat} (hi : i < (A 1 0).toNatClampNeg) : ya_isT A (nI i) = true := by
  have := I.1.1
  rw [yi_clampInt] at hi
  rw [yl_isT, nI_toInt (by omega)]
  omega
theorem yg_rootT {x : Int32} (h : ya_isT A x = true) : ya_X2_isRootType A x = decide (tP A x = -1) := by
  unfold ya_X2_isRootType
  rw [h, Bool.true_and, show tP A x = ya_tg A 3 (-1) x from rfl, ya_tg_in h]
theorem ym_hasRoot (M : yr_M A σ) (I : yn_I t A) (a1 : Int32) : sf_X6_hasRoot [.ref 44, .int a1] σ = some (.inl (some (.int (ya_b (ya_X2_hasRootType A a1)))), σ) := by
  have e0 : (ya_b ((ya_ff (fun i => ((decide ((ya_tg A 2 (-1) (nI i)) = a1)) && (decide ((ya_tg A 3 (-1) (nI i)) = (-1))))) ((A 1 0).toNatClampNeg) 0).isSome)) = (ya_b (ya_X2_hasRootType A a1)) := by
    unfold ya_X2_hasRootType
    rw [yg_ite]
    congr 2
    refine ya_ff_congr (fun i _ hi => ?_)
    rw [yg_rootT (yg_nt I (by omega)), Bool.and_comm]
  rw [← e0]
  refine ee_meth ?_ rfl
  unfold sm_X6_hasRoot
  refine (es_Q (es_SI (x := ya_b false) ee_K (es_Q (es_B (es_Q (es_SI ee_K0 (es_forOr0 (E := (fun (i : Nat) (b : Bool) => ([.ref 44, .int a1, .int (ya_b b), .int (nI i)] : List Value))) (P := fun i => ((decide ((ya_tg A 2 (-1) (nI i)) = a1)) && (decide ((ya_tg A 3 (-1) (nI i)) = (-1))))) (N := (A 1 0).toNatClampNeg) (b := false) (by have := I.1.1; rw [yi_clampInt]; omega) (fun i b hi => (es_cB rfl (em_F0 M (ee_R rfl)) (by have := I.1.1; rw [yi_clampInt] at hi; omega)).trans (by rw [decide_eq_true hi])) (fun b => (es_cB rfl (em_F0 M (ee_R rfl)) (by have := I.1.1; rw [yi_clampInt]; omega)).trans (by rw [decide_eq_false (by omega)])) (fun i b hi k' => (es_Q (es_SI (ee_iC (ee_cO (ee_cb (ee_L rfl)) (fun h1 => (ee_cA (ee_cB (em_45 M I (ee_rF (ee_R rfl) rfl) (ee_L rfl) ?_) (ee_L rfl)) (fun h2 => (ee_cB (em_46 M I (ee_rF (ee_R rfl) rfl) (ee_L rfl) ?_) ee_K)))))) (es_In1 rfl rfl))).trans (congrArg (fun z => k' ((fun (i : Nat) (b : Bool) => ([.ref 44, .int a1, .int (ya_b b), .int (nI i)] : List Value)) (i + 1) z) σ) (show (b || ((decide ((ya_tg A 2 (-1) (nI i)) = a1)) && (decide ((ya_tg A 3 (-1) (nI i)) = (-1))))) = (b || ((decide ((ya_tg A 2 (-1) (nI i)) = a1)) && (decide ((ya_tg A 3 (-1) (nI i)) = (-1))))) from by cases b <;> rfl))) (es_eZb (ee_L rfl)))))))))
  all_goals exact yg_nt I hi
end YQ2
